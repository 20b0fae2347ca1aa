/-! the next token: it is the end, or the tokens go on (printed by wip/tool/reader10.py) -/
set_option maxHeartbeats 4000000 in
theorem cm_101_24 {X : List (Nat × List Value)} {d : Nat} {h : pm_H} (hd : 3 ≤ d) (I : pw_I h) (hX : pw_Xk X)  : pw X d h 101 0 [some (.ref 40)] [] (fun h' v => pw_I h' ∧ pw_E [24] h h' ∧ ((pw_g h' 24 4 = 4 ∨ pw_g h 24 3 + 1 ≤ pw_g h' 24 3) ∧ (pw_g h' 24 4 ≠ 2 ∨ 0 ≤ pw_g h' 24 5)) ∧ (v = .inl none)) := by
  have E : pm_ent 101 = some (1, 1, 9, 4, pmc_101) := rfl
  have E0 : pw_E [24] h h := pw_E.rf _ _
  refine pw_ld E (pc' := 1) (st' := [.ref 40]) rfl (fun _ => rfl) ?_
  refine pw_ld E (pc' := 2) (st' := [.ref 40, .ref 40]) rfl (fun _ => rfl) ?_
  refine pw_getI I E (c := 24) (k := 3) (pc' := 5) rfl rfl rfl rfl rfl rfl (fun hf1a hf1b hf1c hf1d => ?_)
  refine pw_putI I E (c := 24) (k := 2) (pc' := 8) rfl rfl rfl rfl (by omega) (by omega) (by omega) (by omega) rfl rfl ?_
  intro h2I h2E
  generalize h2w : pw_w h 24 2 (pw_i (pw_g h 24 3)) = h2 at h2I h2E ⊢
  have h2F := E0.tr (h2E.wk (W' := [24]) (by first | rfl | simp))
  have L8 : ∀ (n8 : Nat)  (h8 : pm_H), pw_I h8 → pw_E [24] h h8 → pw_g h 24 3 ≤ pw_g h8 24 2 → (1000 - pw_g h8 24 2).toNat = n8 → pw X d h8 101 8 [some (.ref 40)] [] (fun h' v => pw_I h' ∧ pw_E [24] h h' ∧ ((pw_g h' 24 4 = 4 ∨ pw_g h 24 3 + 1 ≤ pw_g h' 24 3) ∧ (pw_g h' 24 4 ≠ 2 ∨ 0 ≤ pw_g h' 24 5)) ∧ (v = .inl none)) := by
    intro n8
    induction n8 using Nat.strongRecOn with
    | ind n8 ih8 =>
      intro  h8 I8 E8 hx8_0 hm8
      refine pw_ld E (pc' := 9) (st' := [.ref 40]) rfl (fun _ => rfl) ?_
      refine pw_getI I8 E (c := 24) (k := 2) (pc' := 12) rfl rfl rfl rfl rfl rfl (fun hf3a hf3b hf3c hf3d => ?_)
      refine pw_ld E (pc' := 13) (st' := [.ref 40, pw_i (pw_g h8 24 2)]) rfl (fun _ => rfl) ?_
      refine pw_getI I8 E (c := 24) (k := 1) (pc' := 16) rfl rfl rfl rfl rfl rfl (fun hf4a hf4b hf4c hf4d => ?_)
      refine pw_if2 E (pc' := 47) rfl (by decide) (by omega) (by omega) (by omega) (by omega) ?_ ?_
      · intro hc5
        have hc5 : pw_g h8 24 1 ≤ pw_g h8 24 2 := hc5
        refine pw_ld E (pc' := 48) (st' := [.ref 40]) rfl (fun _ => rfl) ?_
        refine pw_ld E (pc' := 49) (st' := [.ref 40, .ref 40]) rfl (fun _ => rfl) ?_
        refine pw_getI I8 E (c := 24) (k := 2) (pc' := 52) rfl rfl rfl rfl rfl rfl (fun hf6a hf6b hf6c hf6d => ?_)
        refine pw_putI I8 E (c := 24) (k := 3) (pc' := 55) rfl rfl rfl rfl (by omega) (by omega) (by omega) (by omega) rfl rfl ?_
        intro h7I h7E
        generalize h7w : pw_w h8 24 3 (pw_i (pw_g h8 24 2)) = h7 at h7I h7E ⊢
        have h7F := E8.tr (h7E.wk (W' := [24]) (by first | rfl | simp))
        refine pw_ld E (pc' := 56) (st' := [.ref 40]) rfl (fun _ => rfl) ?_
        have he9 : pw_g h7 24 2 = pw_g h8 24 2 := by rw [← h7w]; exact pw_g_ne (by omega)
        refine pw_getI h7I E (c := 24) (k := 2) (pc' := 59) rfl rfl rfl rfl rfl rfl (fun hf8a hf8b hf8c hf8d => ?_)
        refine pw_ld E (pc' := 60) (st' := [.ref 40, pw_i (pw_g h7 24 2)]) rfl (fun _ => rfl) ?_
        have he11 : pw_g h7 24 1 = pw_g h8 24 1 := by rw [← h7w]; exact pw_g_ne (by omega)
        refine pw_getI h7I E (c := 24) (k := 1) (pc' := 63) rfl rfl rfl rfl rfl rfl (fun hf10a hf10b hf10c hf10d => ?_)
        refine pw_if2 E (pc' := 74) rfl (by decide) (by omega) (by omega) (by omega) (by omega) ?_ ?_
        · intro hc12
          have hc12 : pw_g h7 24 2 < pw_g h7 24 1 := hc12
          refine pw_ld E (pc' := 75) (st' := [.ref 40]) rfl (fun _ => rfl) ?_
          refine pw_getR (b := 41) h7I E (c := 24) (k := 0) (pc' := 78) rfl rfl rfl rfl rfl rfl rfl ?_
          refine pw_ld E (pc' := 79) (st' := [.ref 40, .ref 41]) rfl (fun _ => rfl) ?_
          refine pw_getI h7I E (c := 24) (k := 2) (pc' := 82) rfl rfl rfl rfl rfl rfl (fun hf13a hf13b hf13c hf13d => ?_)
          refine pw_ald h7I E (c := 25) (pc' := 83) rfl rfl rfl (by decide) rfl (by decide) (by omega) (by omega) rfl (fun hf14a hf14b hf14c hf14d => ?_)
          refine pw_call (m' := 103) (As := [pw_i (pw_g h7 25 ((pw_g h7 24 2).toNat))]) (rest := []) (ls'' := [some (pw_i (pw_g h7 25 ((pw_g h7 24 2).toNat)))]) (by omega) E rfl (fun _ => pw_iS rfl rfl rfl) (rfl : pm_ent 103 = some (1, 1, 9, 1, pmc_103)) rfl rfl (cm_103_24 (by omega) h7I (pw_g h7 25 ((pw_g h7 24 2).toNat)) (by omega) (by omega)) ?_
          rintro u16 v15 ⟨rfl, x17, rfl, hx17a, hx17b, hx17r⟩
          refine ⟨_, rfl, ?_⟩
          show pw X d h7 101 86 [some (.ref 40)] [pw_i x17] _
          have hx17r : (x17 = 1 ∧ 97 ≤ (pw_g h7 25 ((pw_g h7 24 2).toNat)) ∧ (pw_g h7 25 ((pw_g h7 24 2).toNat)) ≤ 122) ∨ (x17 = 0 ∧ ¬ (97 ≤ (pw_g h7 25 ((pw_g h7 24 2).toNat)) ∧ (pw_g h7 25 ((pw_g h7 24 2).toNat)) ≤ 122)) := hx17r
          rcases (by omega : x17 = 1 ∨ x17 = 0) with hb18 | hb18
          · have hb18 : x17 = 1 := by omega
            refine pw_if E (pc' := 96) rfl (by decide) (by omega) (by omega) ?_ ?_
            · intro hc19
              have hc19 : x17 = (0 : Int) := hc19
              exfalso; omega
            · intro hc20
              have hc20 : ¬ (x17 = (0 : Int)) := hc20
              refine pw_ld E (pc' := 90) (st' := [.ref 40]) rfl (fun _ => rfl) ?_
              have he21 : pw_g h7 24 3 = pw_g h8 24 2 := by rw [← h7w]; exact pw_g_eq (c := 24) (k := 3) I8 rfl rfl (by omega) (by omega)
              obtain ⟨f22l, f22h, -⟩ := pw_obj (c := 24) h7I rfl
              have hidx : pw_g h7 25 (pw_g h7 24 3).toNat = pw_g h7 25 (pw_g h7 24 2).toNat := by rw [show pw_g h7 24 3 = pw_g h7 24 2 by omega]
              refine pw_call (m' := 104) (As := [.ref 40]) (rest := []) (ls'' := [some (.ref 40)]) (by omega) E rfl (fun _ => pw_iV rfl rfl rfl rfl (pw_cellI f22h rfl)) (rfl : pm_ent 104 = some (1, 1, 9, 4, pmc_104)) rfl rfl (cm_104_24 (by omega) h7I (by omega) (by omega)) ?_
              rintro h23 v24 ⟨h23I, h23E, hq25, rfl⟩
              refine ⟨_, rfl, ?_⟩
              have h23F := h7F.tr (h23E.wk (W' := [24]) (by first | rfl | simp))
              show pw X d h23 101 93 [some (.ref 40)] [] _
              refine pw_goto E (pc' := 167) rfl (by decide) ?_
              refine pw_vret E rfl ?_
              exact ⟨h23I, h23F, ⟨by omega, rfl⟩⟩
          · have hb26 : x17 = 0 := by omega
            refine pw_if E (pc' := 96) rfl (by decide) (by omega) (by omega) ?_ ?_
            · intro hc27
              have hc27 : x17 = (0 : Int) := hc27
              refine pw_ld E (pc' := 97) (st' := [.ref 40]) rfl (fun _ => rfl) ?_
              refine pw_getR (b := 41) h7I E (c := 24) (k := 0) (pc' := 100) rfl rfl rfl rfl rfl rfl rfl ?_
              refine pw_ld E (pc' := 101) (st' := [.ref 40, .ref 41]) rfl (fun _ => rfl) ?_
              refine pw_getI h7I E (c := 24) (k := 2) (pc' := 104) rfl rfl rfl rfl rfl rfl (fun hf28a hf28b hf28c hf28d => ?_)
              refine pw_ald h7I E (c := 25) (pc' := 105) rfl rfl rfl (by decide) rfl (by decide) (by omega) (by omega) rfl (fun hf29a hf29b hf29c hf29d => ?_)
              refine pw_call (m' := 105) (As := [pw_i (pw_g h7 25 ((pw_g h7 24 2).toNat))]) (rest := []) (ls'' := [some (pw_i (pw_g h7 25 ((pw_g h7 24 2).toNat)))]) (by omega) E rfl (fun _ => pw_iS rfl rfl rfl) (rfl : pm_ent 105 = some (1, 1, 9, 1, pmc_105)) rfl rfl (cm_105_24 (by omega) h7I (pw_g h7 25 ((pw_g h7 24 2).toNat)) (by omega) (by omega)) ?_
              rintro u31 v30 ⟨rfl, x32, rfl, hx32a, hx32b, hx32r⟩
              refine ⟨_, rfl, ?_⟩
              show pw X d h7 101 108 [some (.ref 40)] [pw_i x32] _
              have hx32r : (x32 = 1 ∧ 48 ≤ (pw_g h7 25 ((pw_g h7 24 2).toNat)) ∧ (pw_g h7 25 ((pw_g h7 24 2).toNat)) ≤ 57) ∨ (x32 = 0 ∧ ¬ (48 ≤ (pw_g h7 25 ((pw_g h7 24 2).toNat)) ∧ (pw_g h7 25 ((pw_g h7 24 2).toNat)) ≤ 57)) := hx32r
              rcases (by omega : x32 = 1 ∨ x32 = 0) with hb33 | hb33
              · have hb33 : x32 = 1 := by omega
                refine pw_if E (pc' := 118) rfl (by decide) (by omega) (by omega) ?_ ?_
                · intro hc34
                  have hc34 : x32 = (0 : Int) := hc34
                  exfalso; omega
                · intro hc35
                  have hc35 : ¬ (x32 = (0 : Int)) := hc35
                  refine pw_ld E (pc' := 112) (st' := [.ref 40]) rfl (fun _ => rfl) ?_
                  have he36 : pw_g h7 24 3 = pw_g h8 24 2 := by rw [← h7w]; exact pw_g_eq (c := 24) (k := 3) I8 rfl rfl (by omega) (by omega)
                  obtain ⟨f37l, f37h, -⟩ := pw_obj (c := 24) h7I rfl
                  have hidx : pw_g h7 25 (pw_g h7 24 3).toNat = pw_g h7 25 (pw_g h7 24 2).toNat := by rw [show pw_g h7 24 3 = pw_g h7 24 2 by omega]
                  refine pw_call (m' := 106) (As := [.ref 40]) (rest := []) (ls'' := [some (.ref 40)]) (by omega) E rfl (fun _ => pw_iV rfl rfl rfl rfl (pw_cellI f37h rfl)) (rfl : pm_ent 106 = some (1, 1, 9, 4, pmc_106)) rfl rfl (cm_106_24 (by omega) h7I (by omega) (by omega) (by omega)) ?_
                  rintro h38 v39 ⟨h38I, h38E, hq40, rfl⟩
                  refine ⟨_, rfl, ?_⟩
                  have h38F := h7F.tr (h38E.wk (W' := [24]) (by first | rfl | simp))
                  show pw X d h38 101 115 [some (.ref 40)] [] _
                  refine pw_goto E (pc' := 167) rfl (by decide) ?_
                  refine pw_vret E rfl ?_
                  exact ⟨h38I, h38F, ⟨by omega, rfl⟩⟩
              · have hb41 : x32 = 0 := by omega
                refine pw_if E (pc' := 118) rfl (by decide) (by omega) (by omega) ?_ ?_
                · intro hc42
                  have hc42 : x32 = (0 : Int) := hc42
                  refine pw_ld E (pc' := 119) (st' := [.ref 40]) rfl (fun _ => rfl) ?_
                  refine pw_ld E (pc' := 120) (st' := [.ref 40, .ref 40]) rfl (fun _ => rfl) ?_
                  have he44 : pw_g h7 24 3 = pw_g h8 24 2 := by rw [← h7w]; exact pw_g_eq (c := 24) (k := 3) I8 rfl rfl (by omega) (by omega)
                  refine pw_getI h7I E (c := 24) (k := 3) (pc' := 123) rfl rfl rfl rfl rfl rfl (fun hf43a hf43b hf43c hf43d => ?_)
                  refine pw_ld E (pc' := 124) (st' := [pw_i 1, pw_i (pw_g h7 24 3), .ref 40]) rfl (fun _ => rfl) ?_
                  refine pw_add E (pc' := 125) rfl rfl ?_
                  refine pw_putI h7I E (c := 24) (k := 3) (pc' := 128) rfl rfl rfl rfl (by omega) (by omega) (by omega) (by omega) rfl rfl ?_
                  intro h45I h45E
                  generalize h45w : pw_w h7 24 3 (pw_i ((pw_g h7 24 3) + 1)) = h45 at h45I h45E ⊢
                  have h45F := h7F.tr (h45E.wk (W' := [24]) (by first | rfl | simp))
                  refine pw_ld E (pc' := 129) (st' := [.ref 40]) rfl (fun _ => rfl) ?_
                  refine pw_ld E (pc' := 130) (st' := [.ref 40, .ref 40]) rfl (fun _ => rfl) ?_
                  refine pw_getR (b := 41) h45I E (c := 24) (k := 0) (pc' := 133) rfl rfl rfl rfl rfl rfl rfl ?_
                  refine pw_ld E (pc' := 134) (st' := [.ref 40, .ref 41, .ref 40]) rfl (fun _ => rfl) ?_
                  have he47 : pw_g h45 24 2 = pw_g h7 24 2 := by rw [← h45w]; exact pw_g_ne (by omega)
                  refine pw_getI h45I E (c := 24) (k := 2) (pc' := 137) rfl rfl rfl rfl rfl rfl (fun hf46a hf46b hf46c hf46d => ?_)
                  refine pw_ald h45I E (c := 25) (pc' := 138) rfl rfl rfl (by decide) rfl (by decide) (by omega) (by omega) rfl (fun hf48a hf48b hf48c hf48d => ?_)
                  refine pw_putI h45I E (c := 24) (k := 5) (pc' := 141) rfl rfl rfl rfl (by omega) (by omega) (by omega) (by omega) rfl rfl ?_
                  intro h49I h49E
                  generalize h49w : pw_w h45 24 5 (pw_i (pw_g h45 25 ((pw_g h45 24 2).toNat))) = h49 at h49I h49E ⊢
                  have h49F := h45F.tr (h49E.wk (W' := [24]) (by first | rfl | simp))
                  refine pw_ld E (pc' := 142) (st' := [.ref 40]) rfl (fun _ => rfl) ?_
                  refine pw_ld E (pc' := 144) (st' := [.ref 8, .ref 40]) rfl (fun _ => rfl) ?_
                  refine pw_ld E (pc' := 145) (st' := [.ref 40, .ref 8, .ref 40]) rfl (fun _ => rfl) ?_
                  refine pw_getR (b := 41) h49I E (c := 24) (k := 0) (pc' := 148) rfl rfl rfl rfl rfl rfl rfl ?_
                  refine pw_ld E (pc' := 149) (st' := [.ref 40, .ref 41, .ref 8, .ref 40]) rfl (fun _ => rfl) ?_
                  have he51 : pw_g h49 24 2 = pw_g h45 24 2 := by rw [← h49w]; exact pw_g_ne (by omega)
                  refine pw_getI h49I E (c := 24) (k := 2) (pc' := 152) rfl rfl rfl rfl rfl rfl (fun hf50a hf50b hf50c hf50d => ?_)
                  refine pw_ald h49I E (c := 25) (pc' := 153) rfl rfl rfl (by decide) rfl (by decide) (by omega) (by omega) rfl (fun hf52a hf52b hf52c hf52d => ?_)
                  obtain ⟨y53l, y53s, y53n, y53i⟩ := pw_sxk (p := 8) hX (by omega) (by omega)
                  refine pw_sidx E rfl rfl y53s rfl (fun x54 hx54a hx54b => ?_)
                  refine pw_if E (pc' := 163) rfl (by decide) (by omega) (by omega) ?_ ?_
                  · intro hc55
                    have hc55 : x54 < (0 : Int) := hc55
                    refine pw_ld E (pc' := 164) (st' := [pw_i 0, .ref 40]) rfl (fun _ => rfl) ?_
                    refine pw_putI h49I E (c := 24) (k := 4) (pc' := 167) rfl rfl rfl rfl (by omega) (by omega) (by omega) (by omega) rfl rfl ?_
                    intro h56I h56E
                    generalize h56w : pw_w h49 24 4 (pw_i 0) = h56 at h56I h56E ⊢
                    have h56F := h49F.tr (h56E.wk (W' := [24]) (by first | rfl | simp))
                    have he57 : pw_g h56 24 3 = pw_g h49 24 3 := by rw [← h56w]; exact pw_g_ne (by omega)
                    have he58 : pw_g h49 24 3 = pw_g h45 24 3 := by rw [← h49w]; exact pw_g_ne (by omega)
                    have he59 : pw_g h45 24 3 = (pw_g h7 24 3) + 1 := by rw [← h45w]; exact pw_g_eq (c := 24) (k := 3) h7I rfl rfl (by omega) (by omega)
                    have he60 : pw_g h56 24 4 = 0 := by rw [← h56w]; exact pw_g_eq (c := 24) (k := 4) h49I rfl rfl (by omega) (by omega)
                    have he61 : pw_g h56 24 5 = pw_g h49 24 5 := by rw [← h56w]; exact pw_g_ne (by omega)
                    have he62 : pw_g h49 24 5 = pw_g h45 25 ((pw_g h45 24 2).toNat) := by rw [← h49w]; exact pw_g_eq (c := 24) (k := 5) h45I rfl rfl (by omega) (by omega)
                    refine pw_vret E rfl ?_
                    exact ⟨h56I, h56F, ⟨by omega, rfl⟩⟩
                  · intro hc63
                    have hc63 : ¬ (x54 < (0 : Int)) := hc63
                    refine pw_ld E (pc' := 160) (st' := [pw_i 3, .ref 40]) rfl (fun _ => rfl) ?_
                    refine pw_goto E (pc' := 164) rfl (by decide) ?_
                    refine pw_putI h49I E (c := 24) (k := 4) (pc' := 167) rfl rfl rfl rfl (by omega) (by omega) (by omega) (by omega) rfl rfl ?_
                    intro h64I h64E
                    generalize h64w : pw_w h49 24 4 (pw_i 3) = h64 at h64I h64E ⊢
                    have h64F := h49F.tr (h64E.wk (W' := [24]) (by first | rfl | simp))
                    have he65 : pw_g h64 24 3 = pw_g h49 24 3 := by rw [← h64w]; exact pw_g_ne (by omega)
                    have he66 : pw_g h49 24 3 = pw_g h45 24 3 := by rw [← h49w]; exact pw_g_ne (by omega)
                    have he67 : pw_g h45 24 3 = (pw_g h7 24 3) + 1 := by rw [← h45w]; exact pw_g_eq (c := 24) (k := 3) h7I rfl rfl (by omega) (by omega)
                    have he68 : pw_g h64 24 4 = 3 := by rw [← h64w]; exact pw_g_eq (c := 24) (k := 4) h49I rfl rfl (by omega) (by omega)
                    have he69 : pw_g h64 24 5 = pw_g h49 24 5 := by rw [← h64w]; exact pw_g_ne (by omega)
                    have he70 : pw_g h49 24 5 = pw_g h45 25 ((pw_g h45 24 2).toNat) := by rw [← h49w]; exact pw_g_eq (c := 24) (k := 5) h45I rfl rfl (by omega) (by omega)
                    refine pw_vret E rfl ?_
                    exact ⟨h64I, h64F, ⟨by omega, rfl⟩⟩
                · intro hc71
                  have hc71 : ¬ (x32 = (0 : Int)) := hc71
                  exfalso; omega
            · intro hc72
              have hc72 : ¬ (x17 = (0 : Int)) := hc72
              exfalso; omega
        · intro hc73
          have hc73 : ¬ (pw_g h7 24 2 < pw_g h7 24 1) := hc73
          refine pw_ld E (pc' := 67) (st' := [.ref 40]) rfl (fun _ => rfl) ?_
          refine pw_ld E (pc' := 68) (st' := [pw_i 4, .ref 40]) rfl (fun _ => rfl) ?_
          refine pw_putI h7I E (c := 24) (k := 4) (pc' := 71) rfl rfl rfl rfl (by omega) (by omega) (by omega) (by omega) rfl rfl ?_
          intro h74I h74E
          generalize h74w : pw_w h7 24 4 (pw_i 4) = h74 at h74I h74E ⊢
          have h74F := h7F.tr (h74E.wk (W' := [24]) (by first | rfl | simp))
          refine pw_goto E (pc' := 167) rfl (by decide) ?_
          have he75 : pw_g h74 24 3 = pw_g h7 24 3 := by rw [← h74w]; exact pw_g_ne (by omega)
          have he76 : pw_g h7 24 3 = pw_g h8 24 2 := by rw [← h7w]; exact pw_g_eq (c := 24) (k := 3) I8 rfl rfl (by omega) (by omega)
          have he77 : pw_g h74 24 4 = 4 := by rw [← h74w]; exact pw_g_eq (c := 24) (k := 4) h7I rfl rfl (by omega) (by omega)
          refine pw_vret E rfl ?_
          exact ⟨h74I, h74F, ⟨by omega, rfl⟩⟩
      · intro hc78
        have hc78 : ¬ (pw_g h8 24 1 ≤ pw_g h8 24 2) := hc78
        refine pw_ld E (pc' := 20) (st' := [.ref 40]) rfl (fun _ => rfl) ?_
        refine pw_getR (b := 41) I8 E (c := 24) (k := 0) (pc' := 23) rfl rfl rfl rfl rfl rfl rfl ?_
        refine pw_ld E (pc' := 24) (st' := [.ref 40, .ref 41]) rfl (fun _ => rfl) ?_
        refine pw_getI I8 E (c := 24) (k := 2) (pc' := 27) rfl rfl rfl rfl rfl rfl (fun hf79a hf79b hf79c hf79d => ?_)
        refine pw_ald I8 E (c := 25) (pc' := 28) rfl rfl rfl (by decide) rfl (by decide) (by omega) (by omega) rfl (fun hf80a hf80b hf80c hf80d => ?_)
        refine pw_call (m' := 102) (As := [pw_i (pw_g h8 25 ((pw_g h8 24 2).toNat))]) (rest := []) (ls'' := [some (pw_i (pw_g h8 25 ((pw_g h8 24 2).toNat)))]) (by omega) E rfl (fun _ => pw_iS rfl rfl rfl) (rfl : pm_ent 102 = some (1, 1, 9, 1, pmc_102)) rfl rfl (cm_102 (by omega) I8 (pw_g h8 25 ((pw_g h8 24 2).toNat)) (by omega) (by omega)) ?_
        rintro u82 v81 ⟨rfl, x83, rfl, hx83a, hx83b⟩
        refine ⟨_, rfl, ?_⟩
        show pw X d h8 101 31 [some (.ref 40)] [pw_i x83] _
        refine pw_if E (pc' := 47) rfl (by decide) (by omega) (by omega) ?_ ?_
        · intro hc84
          have hc84 : x83 = (0 : Int) := hc84
          refine pw_ld E (pc' := 48) (st' := [.ref 40]) rfl (fun _ => rfl) ?_
          refine pw_ld E (pc' := 49) (st' := [.ref 40, .ref 40]) rfl (fun _ => rfl) ?_
          refine pw_getI I8 E (c := 24) (k := 2) (pc' := 52) rfl rfl rfl rfl rfl rfl (fun hf85a hf85b hf85c hf85d => ?_)
          refine pw_putI I8 E (c := 24) (k := 3) (pc' := 55) rfl rfl rfl rfl (by omega) (by omega) (by omega) (by omega) rfl rfl ?_
          intro h86I h86E
          generalize h86w : pw_w h8 24 3 (pw_i (pw_g h8 24 2)) = h86 at h86I h86E ⊢
          have h86F := E8.tr (h86E.wk (W' := [24]) (by first | rfl | simp))
          refine pw_ld E (pc' := 56) (st' := [.ref 40]) rfl (fun _ => rfl) ?_
          have he88 : pw_g h86 24 2 = pw_g h8 24 2 := by rw [← h86w]; exact pw_g_ne (by omega)
          refine pw_getI h86I E (c := 24) (k := 2) (pc' := 59) rfl rfl rfl rfl rfl rfl (fun hf87a hf87b hf87c hf87d => ?_)
          refine pw_ld E (pc' := 60) (st' := [.ref 40, pw_i (pw_g h86 24 2)]) rfl (fun _ => rfl) ?_
          have he90 : pw_g h86 24 1 = pw_g h8 24 1 := by rw [← h86w]; exact pw_g_ne (by omega)
          refine pw_getI h86I E (c := 24) (k := 1) (pc' := 63) rfl rfl rfl rfl rfl rfl (fun hf89a hf89b hf89c hf89d => ?_)
          refine pw_if2 E (pc' := 74) rfl (by decide) (by omega) (by omega) (by omega) (by omega) ?_ ?_
          · intro hc91
            have hc91 : pw_g h86 24 2 < pw_g h86 24 1 := hc91
            refine pw_ld E (pc' := 75) (st' := [.ref 40]) rfl (fun _ => rfl) ?_
            refine pw_getR (b := 41) h86I E (c := 24) (k := 0) (pc' := 78) rfl rfl rfl rfl rfl rfl rfl ?_
            refine pw_ld E (pc' := 79) (st' := [.ref 40, .ref 41]) rfl (fun _ => rfl) ?_
            refine pw_getI h86I E (c := 24) (k := 2) (pc' := 82) rfl rfl rfl rfl rfl rfl (fun hf92a hf92b hf92c hf92d => ?_)
            refine pw_ald h86I E (c := 25) (pc' := 83) rfl rfl rfl (by decide) rfl (by decide) (by omega) (by omega) rfl (fun hf93a hf93b hf93c hf93d => ?_)
            refine pw_call (m' := 103) (As := [pw_i (pw_g h86 25 ((pw_g h86 24 2).toNat))]) (rest := []) (ls'' := [some (pw_i (pw_g h86 25 ((pw_g h86 24 2).toNat)))]) (by omega) E rfl (fun _ => pw_iS rfl rfl rfl) (rfl : pm_ent 103 = some (1, 1, 9, 1, pmc_103)) rfl rfl (cm_103_24 (by omega) h86I (pw_g h86 25 ((pw_g h86 24 2).toNat)) (by omega) (by omega)) ?_
            rintro u95 v94 ⟨rfl, x96, rfl, hx96a, hx96b, hx96r⟩
            refine ⟨_, rfl, ?_⟩
            show pw X d h86 101 86 [some (.ref 40)] [pw_i x96] _
            have hx96r : (x96 = 1 ∧ 97 ≤ (pw_g h86 25 ((pw_g h86 24 2).toNat)) ∧ (pw_g h86 25 ((pw_g h86 24 2).toNat)) ≤ 122) ∨ (x96 = 0 ∧ ¬ (97 ≤ (pw_g h86 25 ((pw_g h86 24 2).toNat)) ∧ (pw_g h86 25 ((pw_g h86 24 2).toNat)) ≤ 122)) := hx96r
            rcases (by omega : x96 = 1 ∨ x96 = 0) with hb97 | hb97
            · have hb97 : x96 = 1 := by omega
              refine pw_if E (pc' := 96) rfl (by decide) (by omega) (by omega) ?_ ?_
              · intro hc98
                have hc98 : x96 = (0 : Int) := hc98
                exfalso; omega
              · intro hc99
                have hc99 : ¬ (x96 = (0 : Int)) := hc99
                refine pw_ld E (pc' := 90) (st' := [.ref 40]) rfl (fun _ => rfl) ?_
                have he100 : pw_g h86 24 3 = pw_g h8 24 2 := by rw [← h86w]; exact pw_g_eq (c := 24) (k := 3) I8 rfl rfl (by omega) (by omega)
                obtain ⟨f101l, f101h, -⟩ := pw_obj (c := 24) h86I rfl
                have hidx : pw_g h86 25 (pw_g h86 24 3).toNat = pw_g h86 25 (pw_g h86 24 2).toNat := by rw [show pw_g h86 24 3 = pw_g h86 24 2 by omega]
                refine pw_call (m' := 104) (As := [.ref 40]) (rest := []) (ls'' := [some (.ref 40)]) (by omega) E rfl (fun _ => pw_iV rfl rfl rfl rfl (pw_cellI f101h rfl)) (rfl : pm_ent 104 = some (1, 1, 9, 4, pmc_104)) rfl rfl (cm_104_24 (by omega) h86I (by omega) (by omega)) ?_
                rintro h102 v103 ⟨h102I, h102E, hq104, rfl⟩
                refine ⟨_, rfl, ?_⟩
                have h102F := h86F.tr (h102E.wk (W' := [24]) (by first | rfl | simp))
                show pw X d h102 101 93 [some (.ref 40)] [] _
                refine pw_goto E (pc' := 167) rfl (by decide) ?_
                refine pw_vret E rfl ?_
                exact ⟨h102I, h102F, ⟨by omega, rfl⟩⟩
            · have hb105 : x96 = 0 := by omega
              refine pw_if E (pc' := 96) rfl (by decide) (by omega) (by omega) ?_ ?_
              · intro hc106
                have hc106 : x96 = (0 : Int) := hc106
                refine pw_ld E (pc' := 97) (st' := [.ref 40]) rfl (fun _ => rfl) ?_
                refine pw_getR (b := 41) h86I E (c := 24) (k := 0) (pc' := 100) rfl rfl rfl rfl rfl rfl rfl ?_
                refine pw_ld E (pc' := 101) (st' := [.ref 40, .ref 41]) rfl (fun _ => rfl) ?_
                refine pw_getI h86I E (c := 24) (k := 2) (pc' := 104) rfl rfl rfl rfl rfl rfl (fun hf107a hf107b hf107c hf107d => ?_)
                refine pw_ald h86I E (c := 25) (pc' := 105) rfl rfl rfl (by decide) rfl (by decide) (by omega) (by omega) rfl (fun hf108a hf108b hf108c hf108d => ?_)
                refine pw_call (m' := 105) (As := [pw_i (pw_g h86 25 ((pw_g h86 24 2).toNat))]) (rest := []) (ls'' := [some (pw_i (pw_g h86 25 ((pw_g h86 24 2).toNat)))]) (by omega) E rfl (fun _ => pw_iS rfl rfl rfl) (rfl : pm_ent 105 = some (1, 1, 9, 1, pmc_105)) rfl rfl (cm_105_24 (by omega) h86I (pw_g h86 25 ((pw_g h86 24 2).toNat)) (by omega) (by omega)) ?_
                rintro u110 v109 ⟨rfl, x111, rfl, hx111a, hx111b, hx111r⟩
                refine ⟨_, rfl, ?_⟩
                show pw X d h86 101 108 [some (.ref 40)] [pw_i x111] _
                have hx111r : (x111 = 1 ∧ 48 ≤ (pw_g h86 25 ((pw_g h86 24 2).toNat)) ∧ (pw_g h86 25 ((pw_g h86 24 2).toNat)) ≤ 57) ∨ (x111 = 0 ∧ ¬ (48 ≤ (pw_g h86 25 ((pw_g h86 24 2).toNat)) ∧ (pw_g h86 25 ((pw_g h86 24 2).toNat)) ≤ 57)) := hx111r
                rcases (by omega : x111 = 1 ∨ x111 = 0) with hb112 | hb112
                · have hb112 : x111 = 1 := by omega
                  refine pw_if E (pc' := 118) rfl (by decide) (by omega) (by omega) ?_ ?_
                  · intro hc113
                    have hc113 : x111 = (0 : Int) := hc113
                    exfalso; omega
                  · intro hc114
                    have hc114 : ¬ (x111 = (0 : Int)) := hc114
                    refine pw_ld E (pc' := 112) (st' := [.ref 40]) rfl (fun _ => rfl) ?_
                    have he115 : pw_g h86 24 3 = pw_g h8 24 2 := by rw [← h86w]; exact pw_g_eq (c := 24) (k := 3) I8 rfl rfl (by omega) (by omega)
                    obtain ⟨f116l, f116h, -⟩ := pw_obj (c := 24) h86I rfl
                    have hidx : pw_g h86 25 (pw_g h86 24 3).toNat = pw_g h86 25 (pw_g h86 24 2).toNat := by rw [show pw_g h86 24 3 = pw_g h86 24 2 by omega]
                    refine pw_call (m' := 106) (As := [.ref 40]) (rest := []) (ls'' := [some (.ref 40)]) (by omega) E rfl (fun _ => pw_iV rfl rfl rfl rfl (pw_cellI f116h rfl)) (rfl : pm_ent 106 = some (1, 1, 9, 4, pmc_106)) rfl rfl (cm_106_24 (by omega) h86I (by omega) (by omega) (by omega)) ?_
                    rintro h117 v118 ⟨h117I, h117E, hq119, rfl⟩
                    refine ⟨_, rfl, ?_⟩
                    have h117F := h86F.tr (h117E.wk (W' := [24]) (by first | rfl | simp))
                    show pw X d h117 101 115 [some (.ref 40)] [] _
                    refine pw_goto E (pc' := 167) rfl (by decide) ?_
                    refine pw_vret E rfl ?_
                    exact ⟨h117I, h117F, ⟨by omega, rfl⟩⟩
                · have hb120 : x111 = 0 := by omega
                  refine pw_if E (pc' := 118) rfl (by decide) (by omega) (by omega) ?_ ?_
                  · intro hc121
                    have hc121 : x111 = (0 : Int) := hc121
                    refine pw_ld E (pc' := 119) (st' := [.ref 40]) rfl (fun _ => rfl) ?_
                    refine pw_ld E (pc' := 120) (st' := [.ref 40, .ref 40]) rfl (fun _ => rfl) ?_
                    have he123 : pw_g h86 24 3 = pw_g h8 24 2 := by rw [← h86w]; exact pw_g_eq (c := 24) (k := 3) I8 rfl rfl (by omega) (by omega)
                    refine pw_getI h86I E (c := 24) (k := 3) (pc' := 123) rfl rfl rfl rfl rfl rfl (fun hf122a hf122b hf122c hf122d => ?_)
                    refine pw_ld E (pc' := 124) (st' := [pw_i 1, pw_i (pw_g h86 24 3), .ref 40]) rfl (fun _ => rfl) ?_
                    refine pw_add E (pc' := 125) rfl rfl ?_
                    refine pw_putI h86I E (c := 24) (k := 3) (pc' := 128) rfl rfl rfl rfl (by omega) (by omega) (by omega) (by omega) rfl rfl ?_
                    intro h124I h124E
                    generalize h124w : pw_w h86 24 3 (pw_i ((pw_g h86 24 3) + 1)) = h124 at h124I h124E ⊢
                    have h124F := h86F.tr (h124E.wk (W' := [24]) (by first | rfl | simp))
                    refine pw_ld E (pc' := 129) (st' := [.ref 40]) rfl (fun _ => rfl) ?_
                    refine pw_ld E (pc' := 130) (st' := [.ref 40, .ref 40]) rfl (fun _ => rfl) ?_
                    refine pw_getR (b := 41) h124I E (c := 24) (k := 0) (pc' := 133) rfl rfl rfl rfl rfl rfl rfl ?_
                    refine pw_ld E (pc' := 134) (st' := [.ref 40, .ref 41, .ref 40]) rfl (fun _ => rfl) ?_
                    have he126 : pw_g h124 24 2 = pw_g h86 24 2 := by rw [← h124w]; exact pw_g_ne (by omega)
                    refine pw_getI h124I E (c := 24) (k := 2) (pc' := 137) rfl rfl rfl rfl rfl rfl (fun hf125a hf125b hf125c hf125d => ?_)
                    refine pw_ald h124I E (c := 25) (pc' := 138) rfl rfl rfl (by decide) rfl (by decide) (by omega) (by omega) rfl (fun hf127a hf127b hf127c hf127d => ?_)
                    refine pw_putI h124I E (c := 24) (k := 5) (pc' := 141) rfl rfl rfl rfl (by omega) (by omega) (by omega) (by omega) rfl rfl ?_
                    intro h128I h128E
                    generalize h128w : pw_w h124 24 5 (pw_i (pw_g h124 25 ((pw_g h124 24 2).toNat))) = h128 at h128I h128E ⊢
                    have h128F := h124F.tr (h128E.wk (W' := [24]) (by first | rfl | simp))
                    refine pw_ld E (pc' := 142) (st' := [.ref 40]) rfl (fun _ => rfl) ?_
                    refine pw_ld E (pc' := 144) (st' := [.ref 8, .ref 40]) rfl (fun _ => rfl) ?_
                    refine pw_ld E (pc' := 145) (st' := [.ref 40, .ref 8, .ref 40]) rfl (fun _ => rfl) ?_
                    refine pw_getR (b := 41) h128I E (c := 24) (k := 0) (pc' := 148) rfl rfl rfl rfl rfl rfl rfl ?_
                    refine pw_ld E (pc' := 149) (st' := [.ref 40, .ref 41, .ref 8, .ref 40]) rfl (fun _ => rfl) ?_
                    have he130 : pw_g h128 24 2 = pw_g h124 24 2 := by rw [← h128w]; exact pw_g_ne (by omega)
                    refine pw_getI h128I E (c := 24) (k := 2) (pc' := 152) rfl rfl rfl rfl rfl rfl (fun hf129a hf129b hf129c hf129d => ?_)
                    refine pw_ald h128I E (c := 25) (pc' := 153) rfl rfl rfl (by decide) rfl (by decide) (by omega) (by omega) rfl (fun hf131a hf131b hf131c hf131d => ?_)
                    obtain ⟨y132l, y132s, y132n, y132i⟩ := pw_sxk (p := 8) hX (by omega) (by omega)
                    refine pw_sidx E rfl rfl y132s rfl (fun x133 hx133a hx133b => ?_)
                    refine pw_if E (pc' := 163) rfl (by decide) (by omega) (by omega) ?_ ?_
                    · intro hc134
                      have hc134 : x133 < (0 : Int) := hc134
                      refine pw_ld E (pc' := 164) (st' := [pw_i 0, .ref 40]) rfl (fun _ => rfl) ?_
                      refine pw_putI h128I E (c := 24) (k := 4) (pc' := 167) rfl rfl rfl rfl (by omega) (by omega) (by omega) (by omega) rfl rfl ?_
                      intro h135I h135E
                      generalize h135w : pw_w h128 24 4 (pw_i 0) = h135 at h135I h135E ⊢
                      have h135F := h128F.tr (h135E.wk (W' := [24]) (by first | rfl | simp))
                      have he136 : pw_g h135 24 3 = pw_g h128 24 3 := by rw [← h135w]; exact pw_g_ne (by omega)
                      have he137 : pw_g h128 24 3 = pw_g h124 24 3 := by rw [← h128w]; exact pw_g_ne (by omega)
                      have he138 : pw_g h124 24 3 = (pw_g h86 24 3) + 1 := by rw [← h124w]; exact pw_g_eq (c := 24) (k := 3) h86I rfl rfl (by omega) (by omega)
                      have he139 : pw_g h135 24 4 = 0 := by rw [← h135w]; exact pw_g_eq (c := 24) (k := 4) h128I rfl rfl (by omega) (by omega)
                      have he140 : pw_g h135 24 5 = pw_g h128 24 5 := by rw [← h135w]; exact pw_g_ne (by omega)
                      have he141 : pw_g h128 24 5 = pw_g h124 25 ((pw_g h124 24 2).toNat) := by rw [← h128w]; exact pw_g_eq (c := 24) (k := 5) h124I rfl rfl (by omega) (by omega)
                      refine pw_vret E rfl ?_
                      exact ⟨h135I, h135F, ⟨by omega, rfl⟩⟩
                    · intro hc142
                      have hc142 : ¬ (x133 < (0 : Int)) := hc142
                      refine pw_ld E (pc' := 160) (st' := [pw_i 3, .ref 40]) rfl (fun _ => rfl) ?_
                      refine pw_goto E (pc' := 164) rfl (by decide) ?_
                      refine pw_putI h128I E (c := 24) (k := 4) (pc' := 167) rfl rfl rfl rfl (by omega) (by omega) (by omega) (by omega) rfl rfl ?_
                      intro h143I h143E
                      generalize h143w : pw_w h128 24 4 (pw_i 3) = h143 at h143I h143E ⊢
                      have h143F := h128F.tr (h143E.wk (W' := [24]) (by first | rfl | simp))
                      have he144 : pw_g h143 24 3 = pw_g h128 24 3 := by rw [← h143w]; exact pw_g_ne (by omega)
                      have he145 : pw_g h128 24 3 = pw_g h124 24 3 := by rw [← h128w]; exact pw_g_ne (by omega)
                      have he146 : pw_g h124 24 3 = (pw_g h86 24 3) + 1 := by rw [← h124w]; exact pw_g_eq (c := 24) (k := 3) h86I rfl rfl (by omega) (by omega)
                      have he147 : pw_g h143 24 4 = 3 := by rw [← h143w]; exact pw_g_eq (c := 24) (k := 4) h128I rfl rfl (by omega) (by omega)
                      have he148 : pw_g h143 24 5 = pw_g h128 24 5 := by rw [← h143w]; exact pw_g_ne (by omega)
                      have he149 : pw_g h128 24 5 = pw_g h124 25 ((pw_g h124 24 2).toNat) := by rw [← h128w]; exact pw_g_eq (c := 24) (k := 5) h124I rfl rfl (by omega) (by omega)
                      refine pw_vret E rfl ?_
                      exact ⟨h143I, h143F, ⟨by omega, rfl⟩⟩
                  · intro hc150
                    have hc150 : ¬ (x111 = (0 : Int)) := hc150
                    exfalso; omega
              · intro hc151
                have hc151 : ¬ (x96 = (0 : Int)) := hc151
                exfalso; omega
          · intro hc152
            have hc152 : ¬ (pw_g h86 24 2 < pw_g h86 24 1) := hc152
            refine pw_ld E (pc' := 67) (st' := [.ref 40]) rfl (fun _ => rfl) ?_
            refine pw_ld E (pc' := 68) (st' := [pw_i 4, .ref 40]) rfl (fun _ => rfl) ?_
            refine pw_putI h86I E (c := 24) (k := 4) (pc' := 71) rfl rfl rfl rfl (by omega) (by omega) (by omega) (by omega) rfl rfl ?_
            intro h153I h153E
            generalize h153w : pw_w h86 24 4 (pw_i 4) = h153 at h153I h153E ⊢
            have h153F := h86F.tr (h153E.wk (W' := [24]) (by first | rfl | simp))
            refine pw_goto E (pc' := 167) rfl (by decide) ?_
            have he154 : pw_g h153 24 3 = pw_g h86 24 3 := by rw [← h153w]; exact pw_g_ne (by omega)
            have he155 : pw_g h86 24 3 = pw_g h8 24 2 := by rw [← h86w]; exact pw_g_eq (c := 24) (k := 3) I8 rfl rfl (by omega) (by omega)
            have he156 : pw_g h153 24 4 = 4 := by rw [← h153w]; exact pw_g_eq (c := 24) (k := 4) h86I rfl rfl (by omega) (by omega)
            refine pw_vret E rfl ?_
            exact ⟨h153I, h153F, ⟨by omega, rfl⟩⟩
        · intro hc157
          have hc157 : ¬ (x83 = (0 : Int)) := hc157
          refine pw_ld E (pc' := 35) (st' := [.ref 40]) rfl (fun _ => rfl) ?_
          refine pw_ld E (pc' := 36) (st' := [.ref 40, .ref 40]) rfl (fun _ => rfl) ?_
          refine pw_getI I8 E (c := 24) (k := 2) (pc' := 39) rfl rfl rfl rfl rfl rfl (fun hf158a hf158b hf158c hf158d => ?_)
          refine pw_ld E (pc' := 40) (st' := [pw_i 1, pw_i (pw_g h8 24 2), .ref 40]) rfl (fun _ => rfl) ?_
          refine pw_add E (pc' := 41) rfl rfl ?_
          refine pw_putI I8 E (c := 24) (k := 2) (pc' := 44) rfl rfl rfl rfl (by omega) (by omega) (by omega) (by omega) rfl rfl ?_
          intro h159I h159E
          generalize h159w : pw_w h8 24 2 (pw_i ((pw_g h8 24 2) + 1)) = h159 at h159I h159E ⊢
          have h159F := E8.tr (h159E.wk (W' := [24]) (by first | rfl | simp))
          refine pw_goto E (pc' := 8) rfl (by decide) ?_
          have he160 : pw_g h159 24 2 = (pw_g h8 24 2) + 1 := by rw [← h159w]; exact pw_g_eq (c := 24) (k := 2) I8 rfl rfl (by omega) (by omega)
          have he161 : pw_g h159 24 3 = pw_g h8 24 3 := by rw [← h159w]; exact pw_g_ne (by omega)
          have he162 : pw_g h159 24 1 = pw_g h8 24 1 := by rw [← h159w]; exact pw_g_ne (by omega)
          exact ih8 _ (by omega)  h159 h159I h159F  (by omega) rfl
  have he163 : pw_g h2 24 2 = pw_g h 24 3 := by rw [← h2w]; exact pw_g_eq (c := 24) (k := 2) I rfl rfl (by omega) (by omega)
  have he164 : pw_g h2 24 3 = pw_g h 24 3 := by rw [← h2w]; exact pw_g_ne (by omega)
  exact L8 _  h2 h2I h2F  (by omega) rfl
