section
/-! the model's world runs, exactly -/
set_option maxHeartbeats 4000000 in
theorem cm_260_x {X : List (Nat × List Value)} {d : Nat} {h : pm_H} (hd : 6 ≤ d) (I : pw_I h) (l : Int) (hl1 : 0 ≤ l) (hl2 : l ≤ 3) (sd : Int) (hsd1 : 0 ≤ sd) (hsd2 : sd ≤ 9999) (r : Nat → Int) (th : Int → Int) (C : Int → List Int) (hp0 : pu_Wi h r) (hp1 : pt_MS h l th C) (hp2 : pe_good 0 th C) : pw X d h 260 0 [some (.ref 141), some (pw_i l), some (pw_i sd), none, none, none, none] [] (fun h' v => pw_I h' ∧ pw_E [149, 150, 151, 152, 153] h h' ∧ (pu_w (pw_g h 131) (pu_S (pw_g h 131) (pw_g h 132) (pw_g h 133) (pw_g h 136) (pw_g h 137) th C sd r 12).2 h' 12 0) ∧ (v = .inl none)) := by
  have E : pm_ent 260 = some (3, 7, 12, 4, pmc_260) := rfl
  have E0 : pw_E [149, 150, 151, 152, 153] h h := pw_E.rf _ _
  refine pw_ld E (pc' := 1) (st' := [pw_i sd]) rfl (fun _ => rfl) ?_
  refine pw_i2l E (pc' := 2) rfl rfl (by omega) (by omega) ?_
  refine pw_lstn E (pc' := 3) (ls' := [some (.ref 141), some (pw_i l), some (pw_i sd), some (.long (Int64.ofInt sd)), none, none, none]) rfl rfl rfl rfl ?_
  refine pw_ld E (pc' := 4) (st' := [pw_i 0]) rfl (fun _ => rfl) ?_
  refine pw_ist E (pc' := 6) (ls' := [some (.ref 141), some (pw_i l), some (pw_i sd), some (.long (Int64.ofInt sd)), none, some (pw_i 0), none]) rfl rfl rfl rfl ?_
  have L6 : ∀ (n6 : Nat) (k6_5 : Int) (gh6 : pm_H), pw_I gh6 → pw_E [149, 150, 151, 152, 153] h gh6 → 0 ≤ k6_5 → k6_5 ≤ 24 → pu_w0 r gh6 (k6_5) → (24 - k6_5).toNat = n6 → pw X d gh6 260 6 [some (.ref 141), some (pw_i l), some (pw_i sd), some (.long (Int64.ofInt sd)), none, some (pw_i k6_5), none] [] (fun h' v => pw_I h' ∧ pw_E [149, 150, 151, 152, 153] h h' ∧ (pu_w (pw_g h 131) (pu_S (pw_g h 131) (pw_g h 132) (pw_g h 133) (pw_g h 136) (pw_g h 137) th C sd r 12).2 h' 12 0) ∧ (v = .inl none)) := by
    intro n6
    induction n6 using Nat.strongRecOn with
    | ind n6 ih6 =>
      intro k6_5 gh6 I6 E6 k6_5a k6_5b hx6_0 hm6
      refine pw_ld E (pc' := 8) (st' := [pw_i k6_5]) rfl (fun _ => rfl) ?_
      refine pw_bip E (pc' := 10) rfl rfl (by decide) ?_
      refine pw_if2 E (pc' := 88) rfl (by decide) (by omega) (by omega) (by decide) (by decide) ?_ ?_
      · intro hc1
        change (24 : Int) ≤ k6_5 at hc1
        have hz91 : pu_w (pw_g h 131) (pu_S (pw_g h 131) (pw_g h 132) (pw_g h 133) (pw_g h 136) (pw_g h 137) th C sd r 1).2 gh6 1 0 := pu_w0.w (by rw [show (24 : Int) = k6_5 by omega]; exact hx6_0)
        refine pw_ld E (pc' := 89) (st' := [pw_i 1]) rfl (fun _ => rfl) ?_
        refine pw_ist E (pc' := 91) (ls' := [some (.ref 141), some (pw_i l), some (pw_i sd), some (.long (Int64.ofInt sd)), none, some (pw_i 1), none]) rfl rfl rfl rfl ?_
        have L91 : ∀ (n91 : Nat) (k91_3 : Int) (k91_5 : Int) (k91_6 : Option Value) (gh91 : pm_H), pw_I gh91 → pw_E [149, 150, 151, 152, 153] h gh91 → 0 ≤ k91_3 → k91_3 ≤ 2147483647 → 1 ≤ k91_5 → k91_5 ≤ 12 → k91_3 = (pu_S (pw_g h 131) (pw_g h 132) (pw_g h 133) (pw_g h 136) (pw_g h 137) th C sd r (k91_5)).1 → pu_w (pw_g h 131) (pu_S (pw_g h 131) (pw_g h 132) (pw_g h 133) (pw_g h 136) (pw_g h 137) th C sd r (k91_5)).2 gh91 (k91_5) 0 → (12 - k91_5).toNat = n91 → pw X d gh91 260 91 [some (.ref 141), some (pw_i l), some (pw_i sd), some (.long (Int64.ofInt k91_3)), none, some (pw_i k91_5), k91_6] [] (fun h' v => pw_I h' ∧ pw_E [149, 150, 151, 152, 153] h h' ∧ (pu_w (pw_g h 131) (pu_S (pw_g h 131) (pw_g h 132) (pw_g h 133) (pw_g h 136) (pw_g h 137) th C sd r 12).2 h' 12 0) ∧ (v = .inl none)) := by
          intro n91
          induction n91 using Nat.strongRecOn with
          | ind n91 ih91 =>
            intro k91_3 k91_5 k91_6 gh91 I91 E91 k91_3a k91_3b k91_5a k91_5b hx91_0 hx91_1 hm91
            refine pw_ld E (pc' := 93) (st' := [pw_i k91_5]) rfl (fun _ => rfl) ?_
            refine pw_bip E (pc' := 95) rfl rfl (by decide) ?_
            refine pw_if2 E (pc' := 163) rfl (by decide) (by omega) (by omega) (by decide) (by decide) ?_ ?_
            · intro hc2
              change (12 : Int) ≤ k91_5 at hc2
              refine pw_vret E rfl ?_
              rw [show k91_5 = 12 by omega] at hx91_1
              exact ⟨I91, E91, hx91_1, rfl⟩
            · intro hc3
              change ¬ ((12 : Int) ≤ k91_5) at hc3
              refine pw_ld E (pc' := 99) (st' := [pw_i 0]) rfl (fun _ => rfl) ?_
              refine pw_ist E (pc' := 101) (ls' := [some (.ref 141), some (pw_i l), some (pw_i sd), some (.long (Int64.ofInt k91_3)), none, some (pw_i k91_5), some (pw_i 0)]) rfl rfl rfl rfl ?_
              have L101 : ∀ (n101 : Nat) (k101_3 : Int) (k101_6 : Int) (gh101 : pm_H), pw_I gh101 → pw_E [149, 150, 151, 152, 153] h gh101 → 0 ≤ k101_3 → k101_3 ≤ 2147483647 → 0 ≤ k101_6 → k101_6 ≤ 24 → k101_3 = (pu_K (pw_g h 131) (pw_g h 132) (pw_g h 133) (pw_g h 136) (pw_g h 137) th C sd r (k91_5) (k101_6)).1 → pu_w (pw_g h 131) (pu_K (pw_g h 131) (pw_g h 132) (pw_g h 133) (pw_g h 136) (pw_g h 137) th C sd r (k91_5) (k101_6)).2 gh101 (k91_5) (k101_6) → (24 - k101_6).toNat = n101 → pw X d gh101 260 101 [some (.ref 141), some (pw_i l), some (pw_i sd), some (.long (Int64.ofInt k101_3)), none, some (pw_i k91_5), some (pw_i k101_6)] [] (fun h' v => pw_I h' ∧ pw_E [149, 150, 151, 152, 153] h h' ∧ (pu_w (pw_g h 131) (pu_S (pw_g h 131) (pw_g h 132) (pw_g h 133) (pw_g h 136) (pw_g h 137) th C sd r 12).2 h' 12 0) ∧ (v = .inl none)) := by
                intro n101
                induction n101 using Nat.strongRecOn with
                | ind n101 ih101 =>
                  intro k101_3 k101_6 gh101 I101 E101 k101_3a k101_3b k101_6a k101_6b hx101_0 hx101_1 hm101
                  refine pw_ld E (pc' := 103) (st' := [pw_i k101_6]) rfl (fun _ => rfl) ?_
                  refine pw_bip E (pc' := 105) rfl rfl (by decide) ?_
                  refine pw_if2 E (pc' := 157) rfl (by decide) (by omega) (by omega) (by decide) (by decide) ?_ ?_
                  · intro hc4
                    change (24 : Int) ≤ k101_6 at hc4
                    have h24 : k101_6 = 24 := by omega
                    rw [h24] at hx101_0 hx101_1
                    have eS := pu_KS (td := pw_g h 131) (bk := pw_g h 132) (wg := pw_g h 133) (fl := pw_g h 136) (tr := pw_g h 137) (th := th) (C := C) (sd := sd) (r := r) (m := k91_5) (by omega)
                    have hG1 : k101_3 = (pu_S (pw_g h 131) (pw_g h 132) (pw_g h 133) (pw_g h 136) (pw_g h 137) th C sd r (k91_5 + 1)).1 := by rw [eS]; exact hx101_0
                    have hW1 : pu_w (pw_g h 131) (pu_S (pw_g h 131) (pw_g h 132) (pw_g h 133) (pw_g h 136) (pw_g h 137) th C sd r (k91_5 + 1)).2 gh101 (k91_5 + 1) 0 := by rw [eS]; exact pu_w.mo hx101_1
                    refine pw_inc E (pc' := 160) (ls' := [some (.ref 141), some (pw_i l), some (pw_i sd), some (.long (Int64.ofInt k101_3)), none, some (pw_i (k91_5 + 1)), some (pw_i k101_6)]) rfl rfl rfl rfl ?_
                    refine pw_goto E (pc' := 91) rfl (by decide) ?_
                    exact ih91 _ (by omega) (k101_3) (k91_5 + 1) (some (pw_i k101_6)) gh101 I101 E101 (by omega) (by omega) (by omega) (by omega) hG1 hW1 rfl
                  · intro hc5
                    change ¬ ((24 : Int) ≤ k101_6) at hc5
                    refine pw_ld E (pc' := 109) (st' := [.ref 141]) rfl (fun _ => rfl) ?_
                    refine pw_getR (b := 147) I101 E (c := 125) (k := 10) (pc' := 112) rfl rfl rfl rfl rfl rfl rfl ?_
                    refine pw_ld E (pc' := 114) (st' := [pw_i k101_6, .ref 147]) rfl (fun _ => rfl) ?_
                    refine pw_ald2 I101 E (c := 131) (pc' := 115) rfl rfl rfl (by decide) rfl (by decide) (by omega) (by omega) rfl (fun hf6a hf6b => ?_)
                    refine pw_if E (pc' := 151) rfl (by decide) (by omega) (by omega) ?_ ?_
                    · intro hc7
                      change pw_g gh101 131 (k101_6.toNat) = (0 : Int) at hc7
                      have htd : pw_g h 131 k101_6.toNat = 0 := by rw [← pw_Eg (c := 131) I E101 rfl rfl _]; omega
                      have e0 := pu_Kno (td := pw_g h 131) (bk := pw_g h 132) (wg := pw_g h 133) (fl := pw_g h 136) (tr := pw_g h 137) (th := th) (C := C) (sd := sd) (r := r) (m := k91_5) (n := k101_6) (by omega) htd
                      have hG2 : k101_3 = (pu_K (pw_g h 131) (pw_g h 132) (pw_g h 133) (pw_g h 136) (pw_g h 137) th C sd r k91_5 (k101_6 + 1)).1 := by rw [e0]; exact hx101_0
                      have hW2 : pu_w (pw_g h 131) (pu_K (pw_g h 131) (pw_g h 132) (pw_g h 133) (pw_g h 136) (pw_g h 137) th C sd r k91_5 (k101_6 + 1)).2 gh101 k91_5 (k101_6 + 1) := by rw [e0]; exact pu_w.no (by omega) (by omega) hx101_1 htd
                      refine pw_inc E (pc' := 154) (ls' := [some (.ref 141), some (pw_i l), some (pw_i sd), some (.long (Int64.ofInt k101_3)), none, some (pw_i k91_5), some (pw_i (k101_6 + 1))]) rfl rfl rfl rfl ?_
                      refine pw_goto E (pc' := 101) rfl (by decide) ?_
                      exact ih101 _ (by omega) (k101_3) (k101_6 + 1) gh101 I101 E101 (by omega) (by omega) (by omega) (by omega) hG2 hW2 rfl
                    · intro hc8
                      change ¬ (pw_g gh101 131 (k101_6.toNat) = (0 : Int)) at hc8
                      have htd : pw_g h 131 k101_6.toNat ≠ 0 := by rw [← pw_Eg (c := 131) I E101 rfl rfl _]; omega
                      obtain ⟨y1, y2, y3⟩ := pu_Kyes (td := pw_g h 131) (bk := pw_g h 132) (wg := pw_g h 133) (fl := pw_g h 136) (tr := pw_g h 137) (th := th) (C := C) (sd := sd) (r := r) (m := k91_5) (n := k101_6) (by omega) (by omega) htd
                      rw [← hx101_0] at y1 y2
                      refine pw_ld E (pc' := 119) (st' := [.long (Int64.ofInt k101_3)]) rfl (fun _ => rfl) ?_
                      refine pw_ld E (pc' := 122) (st' := [.long (Int64.ofInt 1103515245), .long (Int64.ofInt k101_3)]) rfl (fun _ => rfl) ?_
                      refine pw_lmul E (pc' := 123) rfl rfl ?_
                      refine pw_ld E (pc' := 126) (st' := [.long (Int64.ofInt 12345), .long (Int64.ofInt (k101_3 * 1103515245))]) rfl (fun _ => rfl) ?_
                      refine pw_ladd E (pc' := 127) rfl rfl ?_
                      refine pw_ld E (pc' := 130) (st' := [.long (Int64.ofInt 2147483648), .long (Int64.ofInt ((k101_3 * 1103515245) + 12345))]) rfl (fun _ => rfl) ?_
                      refine pw_lremC E (pc' := 131) rfl rfl (by omega) (by omega) (by omega) (by omega) ?_
                      have hd9 := pw_remB (a := (k101_3 * 1103515245) + 12345) (b := 2147483648) (by omega)
                      have hg1 : ((k101_3 * 1103515245) + 12345) % 2147483648 = pu_g k101_3 := by unfold pu_g; omega
                      have hgB := pu_gB k101_3
                      refine pw_lstn E (pc' := 132) (ls' := [some (.ref 141), some (pw_i l), some (pw_i sd), some (.long (Int64.ofInt (((k101_3 * 1103515245) + 12345) % 2147483648))), none, some (pw_i k91_5), some (pw_i k101_6)]) rfl rfl rfl rfl ?_
                      refine pw_ld E (pc' := 133) (st' := [.ref 141]) rfl (fun _ => rfl) ?_
                      refine pw_ld E (pc' := 134) (st' := [pw_i l, .ref 141]) rfl (fun _ => rfl) ?_
                      refine pw_ld E (pc' := 136) (st' := [pw_i k101_6, pw_i l, .ref 141]) rfl (fun _ => rfl) ?_
                      refine pw_ld E (pc' := 138) (st' := [pw_i k91_5, pw_i k101_6, pw_i l, .ref 141]) rfl (fun _ => rfl) ?_
                      refine pw_ld E (pc' := 139) (st' := [.long (Int64.ofInt (((k101_3 * 1103515245) + 12345) % 2147483648)), pw_i k91_5, pw_i k101_6, pw_i l, .ref 141]) rfl (fun _ => rfl) ?_
                      refine pw_ld E (pc' := 142) (st' := [.long (Int64.ofInt 65536), .long (Int64.ofInt (((k101_3 * 1103515245) + 12345) % 2147483648)), pw_i k91_5, pw_i k101_6, pw_i l, .ref 141]) rfl (fun _ => rfl) ?_
                      refine pw_ldivC E (pc' := 143) rfl rfl (by omega) (by omega) (by omega) (by omega) ?_
                      have hd10 := pw_divB (a := ((k101_3 * 1103515245) + 12345) % 2147483648) (b := 65536) (by omega) (by omega)
                      refine pw_ld E (pc' := 146) (st' := [.long (Int64.ofInt 10), .long (Int64.ofInt ((((k101_3 * 1103515245) + 12345) % 2147483648) / 65536)), pw_i k91_5, pw_i k101_6, pw_i l, .ref 141]) rfl (fun _ => rfl) ?_
                      refine pw_lremC E (pc' := 147) rfl rfl (by omega) (by omega) (by omega) (by omega) ?_
                      have hd11 := pw_remB (a := (((k101_3 * 1103515245) + 12345) % 2147483648) / 65536) (b := 10) (by omega)
                      refine pw_l2iC E (pc' := 148) rfl rfl ?_
                      have hdr : ((((k101_3 * 1103515245) + 12345) % 2147483648) / 65536) % 10 = pu_d (pu_g k101_3) := by rw [← hg1]; unfold pu_d; rfl
                      have hdB := pu_dB (g := pu_g k101_3)
                      have hW3 := hx101_1 k101_6.toNat (k91_5 - 1).toNat (by omega) (Or.inl (by omega)) (Or.inr htd)
                      rw [show 12 * k101_6.toNat + (k91_5 - 1).toNat = (12 * k101_6 + k91_5 - 1).toNat by omega] at hW3
                      have hMS : pt_MS gh101 l th C := hp1.fr I E101 rfl rfl rfl
                      obtain ⟨f12l, f12h, -⟩ := pw_obj (c := 125) I101 rfl
                      refine pw_call (m' := 261) (As := [.ref 141, pw_i l, pw_i k101_6, pw_i k91_5, pw_i (((((k101_3 * 1103515245) + 12345) % 2147483648) / 65536) % 10)]) (rest := []) (ls'' := [some (.ref 141), some (pw_i l), some (pw_i k101_6), some (pw_i k91_5), some (pw_i (((((k101_3 * 1103515245) + 12345) % 2147483648) / 65536) % 10)), none, none, none, none]) (Nat.le_trans (by decide) hd) E rfl (fun _ => pw_iV rfl rfl rfl rfl (pw_cellI f12h rfl)) (rfl : pm_ent 261 = some (5, 9, 12, 4, pmc_261)) rfl rfl (cm_261_x (pw_dp hd (by decide)) I101 (l) (by omega) (by omega) (k101_6) (by omega) (by omega) (k91_5) (by omega) (by omega) (((((k101_3 * 1103515245) + 12345) % 2147483648) / 65536) % 10) (by omega) (by omega) ((pu_K (pw_g h 131) (pw_g h 132) (pw_g h 133) (pw_g h 136) (pw_g h 137) th C sd r k91_5 k101_6).2 (12 * k101_6 + k91_5 - 1).toNat) th C hW3 hMS hp2) ?_
                      rintro h13 v14 ⟨h13I, h13E, hq261, rfl⟩
                      refine ⟨_, rfl, ?_⟩
                      have h13F := E101.tr (h13E.wk (W' := [149, 150, 151, 152, 153]) (by first | rfl | simp))
                      show pw X d h13 260 151 [some (.ref 141), some (pw_i l), some (pw_i sd), some (.long (Int64.ofInt (((k101_3 * 1103515245) + 12345) % 2147483648))), none, some (pw_i k91_5), some (pw_i k101_6)] [] _
                      have hn := hq261.1
                      rw [pw_Eg (c := 133) I E101 rfl rfl _, pw_Eg (c := 136) I E101 rfl rfl _, pw_Eg (c := 132) I E101 rfl rfl _, pw_Eg (c := 137) I E101 rfl rfl _, hdr, ← y2] at hn
                      have hG2 : ((k101_3 * 1103515245) + 12345) % 2147483648 = (pu_K (pw_g h 131) (pw_g h 132) (pw_g h 133) (pw_g h 136) (pw_g h 137) th C sd r k91_5 (k101_6 + 1)).1 := hg1.trans y1.symm
                      have hW2 : pu_w (pw_g h 131) (pu_K (pw_g h 131) (pw_g h 132) (pw_g h 133) (pw_g h 136) (pw_g h 137) th C sd r k91_5 (k101_6 + 1)).2 h13 k91_5 (k101_6 + 1) := pu_w.yes (by omega) (by omega) (by omega) hx101_1 y3 hq261.2 hn
                      refine pw_inc E (pc' := 154) (ls' := [some (.ref 141), some (pw_i l), some (pw_i sd), some (.long (Int64.ofInt (((k101_3 * 1103515245) + 12345) % 2147483648))), none, some (pw_i k91_5), some (pw_i (k101_6 + 1))]) rfl rfl rfl rfl ?_
                      refine pw_goto E (pc' := 101) rfl (by decide) ?_
                      exact ih101 _ (by omega) (((k101_3 * 1103515245) + 12345) % 2147483648) (k101_6 + 1) h13 h13I h13F (by omega) (by omega) (by omega) (by omega) hG2 hW2 rfl
              exact L101 _ (k91_3) (0) gh91 I91 E91 (by omega) (by omega) (by omega) (by omega) hx91_0 hx91_1 rfl
        exact L91 _ (sd) (1) (none) gh6 I6 E6 (by omega) (by omega) (by omega) (by omega) rfl hz91 rfl
      · intro hc15
        change ¬ ((24 : Int) ≤ k6_5) at hc15
        refine pw_ld E (pc' := 14) (st' := [.ref 141]) rfl (fun _ => rfl) ?_
        refine pw_getR (b := 167) I6 E (c := 125) (k := 38) (pc' := 17) rfl rfl rfl rfl rfl rfl rfl ?_
        refine pw_bip E (pc' := 19) rfl rfl (by decide) ?_
        refine pw_ld E (pc' := 21) (st' := [pw_i k6_5, pw_i 12, .ref 167]) rfl (fun _ => rfl) ?_
        refine pw_mul E (pc' := 22) rfl rfl ?_
        refine pw_ld E (pc' := 23) (st' := [.ref 141, pw_i (12 * k6_5), .ref 167]) rfl (fun _ => rfl) ?_
        refine pw_getR (b := 155) I6 E (c := 125) (k := 19) (pc' := 26) rfl rfl rfl rfl rfl rfl rfl ?_
        refine pw_bip E (pc' := 28) rfl rfl (by decide) ?_
        refine pw_ld E (pc' := 30) (st' := [pw_i k6_5, pw_i 12, .ref 155, pw_i (12 * k6_5), .ref 167]) rfl (fun _ => rfl) ?_
        refine pw_mul E (pc' := 31) rfl rfl ?_
        refine pw_ald2 I6 E (c := 139) (pc' := 32) rfl rfl rfl (by decide) rfl (by decide) (by omega) (by omega) rfl (fun hf16a hf16b => ?_)
        refine pw_ast0 I6 E (c := 151) (pc' := 33) rfl rfl rfl (by decide) rfl (by decide) (by omega) (by omega) rfl (by omega) (by omega) (by omega) (by omega) rfl ?_
        intro h17I h17E
        generalize h17w : pw_w gh6 151 ((12 * k6_5).toNat) (pw_i (pw_g gh6 139 ((12 * k6_5).toNat))) = h17 at h17I h17E ⊢
        have h17F := E6.tr (h17E.wk (W' := [149, 150, 151, 152, 153]) (by first | rfl | simp))
        refine pw_ld E (pc' := 34) (st' := [.ref 141]) rfl (fun _ => rfl) ?_
        refine pw_getR (b := 168) h17I E (c := 125) (k := 39) (pc' := 37) rfl rfl rfl rfl rfl rfl rfl ?_
        refine pw_bip E (pc' := 39) rfl rfl (by decide) ?_
        refine pw_ld E (pc' := 41) (st' := [pw_i k6_5, pw_i 12, .ref 168]) rfl (fun _ => rfl) ?_
        refine pw_mul E (pc' := 42) rfl rfl ?_
        refine pw_ld E (pc' := 43) (st' := [.ref 141, pw_i (12 * k6_5), .ref 168]) rfl (fun _ => rfl) ?_
        refine pw_getR (b := 156) h17I E (c := 125) (k := 20) (pc' := 46) rfl rfl rfl rfl rfl rfl rfl ?_
        refine pw_bip E (pc' := 48) rfl rfl (by decide) ?_
        refine pw_ld E (pc' := 50) (st' := [pw_i k6_5, pw_i 12, .ref 156, pw_i (12 * k6_5), .ref 168]) rfl (fun _ => rfl) ?_
        refine pw_mul E (pc' := 51) rfl rfl ?_
        refine pw_ald2 h17I E (c := 140) (pc' := 52) rfl rfl rfl (by decide) rfl (by decide) (by omega) (by omega) rfl (fun hf18a hf18b => ?_)
        refine pw_ast0 h17I E (c := 152) (pc' := 53) rfl rfl rfl (by decide) rfl (by decide) (by omega) (by omega) rfl (by omega) (by omega) (by omega) (by omega) rfl ?_
        intro h19I h19E
        generalize h19w : pw_w h17 152 ((12 * k6_5).toNat) (pw_i (pw_g h17 140 ((12 * k6_5).toNat))) = h19 at h19I h19E ⊢
        have h19F := h17F.tr (h19E.wk (W' := [149, 150, 151, 152, 153]) (by first | rfl | simp))
        refine pw_ld E (pc' := 54) (st' := [.ref 141]) rfl (fun _ => rfl) ?_
        refine pw_getR (b := 169) h19I E (c := 125) (k := 40) (pc' := 57) rfl rfl rfl rfl rfl rfl rfl ?_
        refine pw_bip E (pc' := 59) rfl rfl (by decide) ?_
        refine pw_ld E (pc' := 61) (st' := [pw_i k6_5, pw_i 12, .ref 169]) rfl (fun _ => rfl) ?_
        refine pw_mul E (pc' := 62) rfl rfl ?_
        refine pw_ld E (pc' := 63) (st' := [.ref 141, pw_i (12 * k6_5), .ref 169]) rfl (fun _ => rfl) ?_
        refine pw_getR (b := 154) h19I E (c := 125) (k := 18) (pc' := 66) rfl rfl rfl rfl rfl rfl rfl ?_
        refine pw_bip E (pc' := 68) rfl rfl (by decide) ?_
        refine pw_ld E (pc' := 70) (st' := [pw_i k6_5, pw_i 12, .ref 154, pw_i (12 * k6_5), .ref 169]) rfl (fun _ => rfl) ?_
        refine pw_mul E (pc' := 71) rfl rfl ?_
        refine pw_ald2 h19I E (c := 138) (pc' := 72) rfl rfl rfl (by decide) rfl (by decide) (by omega) (by omega) rfl (fun hf20a hf20b => ?_)
        refine pw_ld E (pc' := 73) (st' := [pw_i 2, pw_i (pw_g h19 138 ((12 * k6_5).toNat)), pw_i (12 * k6_5), .ref 169]) rfl (fun _ => rfl) ?_
        refine pw_if2 E (pc' := 80) rfl (by decide) (by omega) (by omega) (by decide) (by decide) ?_ ?_
        · intro hc21
          change pw_g h19 138 ((12 * k6_5).toNat) ≠ (2 : Int) at hc21
          refine pw_ld E (pc' := 81) (st' := [pw_i 0, pw_i (12 * k6_5), .ref 169]) rfl (fun _ => rfl) ?_
          refine pw_ast0 h19I E (c := 153) (pc' := 82) rfl rfl rfl (by decide) rfl (by decide) (by omega) (by omega) (pw_b1 (by omega) (by omega)) (by omega) (by omega) (by omega) (by omega) rfl ?_
          intro h22I h22E
          generalize h22w : pw_w h19 153 ((12 * k6_5).toNat) (pw_i 0) = h22 at h22I h22E ⊢
          have h22F := h19F.tr (h22E.wk (W' := [149, 150, 151, 152, 153]) (by first | rfl | simp))
          have a151 : pw_g h22 151 (12 * k6_5).toNat = pw_g gh6 139 ((12 * k6_5).toNat) := by
            rw [← h22w, pw_g_ne (by omega), ← h19w, pw_g_ne (by omega), ← h17w]
            exact pw_g_eqA I6 rfl (by omega) (by omega) (by omega)
          have b151 : ∀ j : Nat, j ≠ (12 * k6_5).toNat → pw_g h22 151 j = pw_g gh6 151 j := fun j hj => by rw [← h22w, pw_g_ne (by omega), ← h19w, pw_g_ne (by omega), ← h17w, pw_g_ne (fun q => hj q.2.symm)]
          have c151 : pw_g gh6 139 ((12 * k6_5).toNat) = pw_g h 139 ((12 * k6_5).toNat) := by rw [pw_Eg (c := 139) I E6 rfl rfl _]
          have a152 : pw_g h22 152 (12 * k6_5).toNat = pw_g h17 140 ((12 * k6_5).toNat) := by
            rw [← h22w, pw_g_ne (by omega), ← h19w]
            exact pw_g_eqA h17I rfl (by omega) (by omega) (by omega)
          have b152 : ∀ j : Nat, j ≠ (12 * k6_5).toNat → pw_g h22 152 j = pw_g gh6 152 j := fun j hj => by rw [← h22w, pw_g_ne (by omega), ← h19w, pw_g_ne (fun q => hj q.2.symm), ← h17w, pw_g_ne (by omega)]
          have c152 : pw_g h17 140 ((12 * k6_5).toNat) = pw_g h 140 ((12 * k6_5).toNat) := by rw [← h17w, pw_g_ne (by omega), pw_Eg (c := 140) I E6 rfl rfl _]
          have a153 : pw_g h22 153 (12 * k6_5).toNat = 0 := by
            rw [← h22w]
            exact pw_g_eqA h19I rfl (by omega) (by omega) (by omega)
          have b153 : ∀ j : Nat, j ≠ (12 * k6_5).toNat → pw_g h22 153 j = pw_g gh6 153 j := fun j hj => by rw [← h22w, pw_g_ne (fun q => hj q.2.symm), ← h19w, pw_g_ne (by omega), ← h17w, pw_g_ne (by omega)]
          have c138 : pw_g h19 138 (12 * k6_5).toNat = pw_g h 138 (12 * k6_5).toNat := by rw [← h19w, pw_g_ne (by omega), ← h17w, pw_g_ne (by omega), pw_Eg (c := 138) I E6 rfl rfl _]
          have hWm := hp0 k6_5.toNat (by omega)
          rw [show 12 * k6_5.toNat = (12 * k6_5).toNat by omega] at hWm
          have hW0 : pu_w0 r h22 (k6_5 + 1) := pu_w0.S (by omega) hx6_0 (fun j hj => ⟨b153 j hj, b151 j hj, b152 j hj⟩) (hWm.r (a151.trans c151) (a152.trans c152) (by omega))
          refine pw_inc E (pc' := 85) (ls' := [some (.ref 141), some (pw_i l), some (pw_i sd), some (.long (Int64.ofInt sd)), none, some (pw_i (k6_5 + 1)), none]) rfl rfl rfl rfl ?_
          refine pw_goto E (pc' := 6) rfl (by decide) ?_
          exact ih6 _ (by omega) (k6_5 + 1) h22 h22I h22F (by omega) (by omega) hW0 rfl
        · intro hc23
          change ¬ (pw_g h19 138 ((12 * k6_5).toNat) ≠ (2 : Int)) at hc23
          refine pw_ld E (pc' := 77) (st' := [pw_i 1, pw_i (12 * k6_5), .ref 169]) rfl (fun _ => rfl) ?_
          refine pw_goto E (pc' := 81) rfl (by decide) ?_
          refine pw_ast0 h19I E (c := 153) (pc' := 82) rfl rfl rfl (by decide) rfl (by decide) (by omega) (by omega) (pw_b1 (by omega) (by omega)) (by omega) (by omega) (by omega) (by omega) rfl ?_
          intro h24I h24E
          generalize h24w : pw_w h19 153 ((12 * k6_5).toNat) (pw_i 1) = h24 at h24I h24E ⊢
          have h24F := h19F.tr (h24E.wk (W' := [149, 150, 151, 152, 153]) (by first | rfl | simp))
          have a151 : pw_g h24 151 (12 * k6_5).toNat = pw_g gh6 139 ((12 * k6_5).toNat) := by
            rw [← h24w, pw_g_ne (by omega), ← h19w, pw_g_ne (by omega), ← h17w]
            exact pw_g_eqA I6 rfl (by omega) (by omega) (by omega)
          have b151 : ∀ j : Nat, j ≠ (12 * k6_5).toNat → pw_g h24 151 j = pw_g gh6 151 j := fun j hj => by rw [← h24w, pw_g_ne (by omega), ← h19w, pw_g_ne (by omega), ← h17w, pw_g_ne (fun q => hj q.2.symm)]
          have c151 : pw_g gh6 139 ((12 * k6_5).toNat) = pw_g h 139 ((12 * k6_5).toNat) := by rw [pw_Eg (c := 139) I E6 rfl rfl _]
          have a152 : pw_g h24 152 (12 * k6_5).toNat = pw_g h17 140 ((12 * k6_5).toNat) := by
            rw [← h24w, pw_g_ne (by omega), ← h19w]
            exact pw_g_eqA h17I rfl (by omega) (by omega) (by omega)
          have b152 : ∀ j : Nat, j ≠ (12 * k6_5).toNat → pw_g h24 152 j = pw_g gh6 152 j := fun j hj => by rw [← h24w, pw_g_ne (by omega), ← h19w, pw_g_ne (fun q => hj q.2.symm), ← h17w, pw_g_ne (by omega)]
          have c152 : pw_g h17 140 ((12 * k6_5).toNat) = pw_g h 140 ((12 * k6_5).toNat) := by rw [← h17w, pw_g_ne (by omega), pw_Eg (c := 140) I E6 rfl rfl _]
          have a153 : pw_g h24 153 (12 * k6_5).toNat = 1 := by
            rw [← h24w]
            exact pw_g_eqA h19I rfl (by omega) (by omega) (by omega)
          have b153 : ∀ j : Nat, j ≠ (12 * k6_5).toNat → pw_g h24 153 j = pw_g gh6 153 j := fun j hj => by rw [← h24w, pw_g_ne (fun q => hj q.2.symm), ← h19w, pw_g_ne (by omega), ← h17w, pw_g_ne (by omega)]
          have c138 : pw_g h19 138 (12 * k6_5).toNat = pw_g h 138 (12 * k6_5).toNat := by rw [← h19w, pw_g_ne (by omega), ← h17w, pw_g_ne (by omega), pw_Eg (c := 138) I E6 rfl rfl _]
          have hWm := hp0 k6_5.toNat (by omega)
          rw [show 12 * k6_5.toNat = (12 * k6_5).toNat by omega] at hWm
          have hW0 : pu_w0 r h24 (k6_5 + 1) := pu_w0.S (by omega) hx6_0 (fun j hj => ⟨b153 j hj, b151 j hj, b152 j hj⟩) (hWm.r (a151.trans c151) (a152.trans c152) (by omega))
          refine pw_inc E (pc' := 85) (ls' := [some (.ref 141), some (pw_i l), some (pw_i sd), some (.long (Int64.ofInt sd)), none, some (pw_i (k6_5 + 1)), none]) rfl rfl rfl rfl ?_
          refine pw_goto E (pc' := 6) rfl (by decide) ?_
          exact ih6 _ (by omega) (k6_5 + 1) h24 h24I h24F (by omega) (by omega) hW0 rfl
  exact L6 _ (0) h I E0 (by omega) (by omega) (fun k hk => absurd hk (by omega)) rfl
end
section
/-! worlds: what is asked of them -/
def pu_hd (v t : Int) : Int := (max 0 v / 100) * 10 + (max 0 v % 100) * t
theorem pu_hdW {v s w g t : Int} (H : pu_Wr v s w g) : pu_hd v t = 10 * w + t * g := by
  unfold pu_hd
  rcases H with ⟨a, -, b, c⟩ | ⟨-, -, a, b, c, d, e⟩
  · rw [a, b, c, Int.mul_zero, Int.mul_zero]
    show (0 : Int) / 100 * 10 + (0 : Int) % 100 * t = 0
    rw [show (0 : Int) % 100 = 0 from rfl, Int.zero_mul]
    rfl
  · have h1 : max 0 v / 100 = w := by omega
    have h2 : max 0 v % 100 = g := by omega
    rw [h1, h2, Int.mul_comm w 10, Int.mul_comm g t]
/-- the laws of the class, of the model -/
def px_LW (h : pm_H) (TH : Int → Int → Int) (CC : Int → Int → List Int) (NN : Int → Int → Int) : Prop := ∀ l : Int, 0 ≤ l → l ≤ 3 → px_SC 0 h (39 + 14 * l).toNat (TH l) (CC l) (NN l) ∧ pe_good 0 (TH l) (CC l)
def pt_LW4 (h : pm_H) (TH : Int → Int → Int) (CC : Int → Int → List Int) : Prop := ∀ l : Int, 0 ≤ l → l ≤ 3 → pt_MS h l (TH l) (CC l) ∧ pe_good 0 (TH l) (CC l)
theorem px_mo.row {h hb : pm_H} {th : Int → Int} {C : Int → List Int} {sd m : Int} (H : px_mo h hb th C sd m) (j : Nat) : pw_g hb 98 j = (pu_S (pw_g h 2) (pw_g h 4) (pw_g h 5) (pw_g h 8) (pw_g h 9) th C sd (pu_r1 (pw_g h 11) 24) m).2 j := congrFun (congrArg Prod.snd H) j
/-- the model runs on to the last month -/
theorem pu_S.o {td bk wg fl tr : Nat → Int} {th : Int → Int} {C : Int → List Int} {sd m : Int} {r : Nat → Int} {c : Nat} (m1 : 1 ≤ m) (m2 : m ≤ 12) (hc : ((c % 12 : Nat) : Int) < m) : (pu_S td bk wg fl tr th C sd r 12).2 c = (pu_S td bk wg fl tr th C sd r m).2 c := by
  unfold pu_S
  have e : ((12 : Int) - 1).toNat = (m - 1).toNat + (12 - m).toNat := by omega
  rw [e]
  exact pu_ms.o (by omega) _ (by omega)
end
section
/-! what the class says of a world -/
set_option maxHeartbeats 4000000 in
theorem cm_20_97x {X : List (Nat × List Value)} {d : Nat} {h : pm_H} (hd : 2 ≤ d) (I : pw_I h) (k : Int) (hk1 : 0 ≤ k) (hk2 : k ≤ 23) (mo : Int) (hmo1 : 0 ≤ mo) (hmo2 : mo ≤ 11) (t : Int) (ht1 : 0 ≤ t) (ht2 : t ≤ 10) : pw X d h 20 0 [some (.ref 113), some (pw_i k), some (pw_i mo), some (pw_i t)] [] (fun h' v => h = h' ∧ ∃ a : Int, v = .inl (some (pw_i a)) ∧ 0 ≤ a ∧ a ≤ 2000 ∧ (a = (max 0 (pw_g h 98 (k * 12 + mo).toNat) / 100) * 10 + (max 0 (pw_g h 98 (k * 12 + mo).toNat) % 100) * t)) := by
  have E : pm_ent 20 = some (4, 4, 2, 0, pmc_20) := rfl
  refine pw_ld E (pc' := 1) (st' := [.ref 113]) rfl (fun _ => rfl) ?_
  refine pw_ld E (pc' := 2) (st' := [pw_i k, .ref 113]) rfl (fun _ => rfl) ?_
  refine pw_ld E (pc' := 3) (st' := [pw_i mo, pw_i k, .ref 113]) rfl (fun _ => rfl) ?_
  obtain ⟨f1l, f1h, -⟩ := pw_obj (c := 97) I rfl
  refine pw_call (m' := 21) (As := [.ref 113, pw_i k, pw_i mo]) (rest := []) (ls'' := [some (.ref 113), some (pw_i k), some (pw_i mo)]) (Nat.le_trans (by decide) hd) E rfl (fun _ => pw_iV rfl rfl rfl rfl (pw_cellI f1h rfl)) (rfl : pm_ent 21 = some (3, 3, 2, 0, pmc_21)) rfl rfl (cm_21_97x (pw_dp hd (by decide)) I (k) (by omega) (by omega) (mo) (by omega) (by omega)) ?_
  rintro u3 v2 ⟨rfl, x4, rfl, hx4a, hx4b, hx4r⟩
  refine ⟨_, rfl, ?_⟩
  show pw X d h 20 6 [some (.ref 113), some (pw_i k), some (pw_i mo), some (pw_i t)] [pw_i x4] _
  change x4 = max 0 (pw_g h 98 (k * 12 + mo).toNat) / 100 at hx4r
  refine pw_bip E (pc' := 8) rfl rfl (by decide) ?_
  refine pw_mul E (pc' := 9) rfl rfl ?_
  refine pw_ld E (pc' := 10) (st' := [.ref 113, pw_i (x4 * 10)]) rfl (fun _ => rfl) ?_
  refine pw_ld E (pc' := 11) (st' := [pw_i k, .ref 113, pw_i (x4 * 10)]) rfl (fun _ => rfl) ?_
  refine pw_ld E (pc' := 12) (st' := [pw_i mo, pw_i k, .ref 113, pw_i (x4 * 10)]) rfl (fun _ => rfl) ?_
  obtain ⟨f5l, f5h, -⟩ := pw_obj (c := 97) I rfl
  refine pw_call (m' := 22) (As := [.ref 113, pw_i k, pw_i mo]) (rest := [pw_i (x4 * 10)]) (ls'' := [some (.ref 113), some (pw_i k), some (pw_i mo)]) (Nat.le_trans (by decide) hd) E rfl (fun _ => pw_iV rfl rfl rfl rfl (pw_cellI f5h rfl)) (rfl : pm_ent 22 = some (3, 3, 2, 0, pmc_22)) rfl rfl (cm_22_97x (pw_dp hd (by decide)) I (k) (by omega) (by omega) (mo) (by omega) (by omega)) ?_
  rintro u7 v6 ⟨rfl, x8, rfl, hx8a, hx8b, hx8r⟩
  refine ⟨_, rfl, ?_⟩
  show pw X d h 20 15 [some (.ref 113), some (pw_i k), some (pw_i mo), some (pw_i t)] [pw_i x8, pw_i (x4 * 10)] _
  change x8 = max 0 (pw_g h 98 (k * 12 + mo).toNat) % 100 at hx8r
  refine pw_ld E (pc' := 16) (st' := [pw_i t, pw_i x8, pw_i (x4 * 10)]) rfl (fun _ => rfl) ?_
  have hm9 := pw_mulB (a := x8) (b := t) (A := 99) (B := 10) (by omega) (by omega) (by omega) (by omega)
  refine pw_mul E (pc' := 17) rfl rfl ?_
  refine pw_add E (pc' := 18) rfl rfl ?_
  refine pw_iret E rfl ?_
  exact ⟨rfl, ⟨_, rfl, by omega, by omega, by rw [← hx4r, ← hx8r]⟩⟩
set_option maxHeartbeats 4000000 in
theorem cm_144_x {X : List (Nat × List Value)} {d : Nat} {h : pm_H} (hd : 7 ≤ d) (I : pw_I h) (la : Int) (hla1 : (-2147483648) ≤ la) (hla2 : la ≤ 2147483647) (sd : Int) (hsd1 : (-2147483648) ≤ sd) (hsd2 : sd ≤ 2147483647) (k : Int) (hk1 : (-2147483648) ≤ k) (hk2 : k ≤ 2147483647) (mo : Int) (hmo1 : (-2147483648) ≤ mo) (hmo2 : mo ≤ 2147483647) (TH : Int → Int → Int) (CC : Int → Int → List Int) (NN : Int → Int → Int) (hp0 : px_LW h TH CC NN) : pw X d h 144 0 [some (.ref 16), some (pw_i la), some (pw_i sd), some (pw_i k), some (pw_i mo)] [] (fun h' v => pw_I h' ∧ pw_E [96, 98, 99, 44, 58, 72, 86] h h' ∧ ∃ a : Int, v = .inl (some (pw_i a)) ∧ (-2147483648) ≤ a ∧ a ≤ 2147483647 ∧ (((0 ≤ la ∧ la ≤ 3 ∧ 0 ≤ sd ∧ sd ≤ 9999 ∧ (0 ≤ k ∧ k ≤ 23 ∧ pw_g h 2 k.toNat = 1) ∧ 0 ≤ mo ∧ mo ≤ 11) ∧ a = pu_hd ((pu_S (pw_g h 2) (pw_g h 4) (pw_g h 5) (pw_g h 8) (pw_g h 9) (TH la) (CC la) sd (pu_r1 (pw_g h 11) 24) (mo + 1)).2 (k * 12 + mo).toNat) (pw_g h 0 6)) ∨ (¬ (0 ≤ la ∧ la ≤ 3 ∧ 0 ≤ sd ∧ sd ≤ 9999 ∧ (0 ≤ k ∧ k ≤ 23 ∧ pw_g h 2 k.toNat = 1) ∧ 0 ≤ mo ∧ mo ≤ 11) ∧ a = -1))) := by
  have E : pm_ent 144 = some (5, 5, 11, 0, pmc_144) := rfl
  have E0 : pw_E [96, 98, 99, 44, 58, 72, 86] h h := pw_E.rf _ _
  refine pw_ld E (pc' := 1) (st' := [pw_i la]) rfl (fun _ => rfl) ?_
  refine pw_call (m' := 142) (As := [pw_i la]) (rest := []) (ls'' := [some (pw_i la)]) (Nat.le_trans (by decide) hd) E rfl (fun _ => pw_iS rfl rfl rfl) (rfl : pm_ent 142 = some (1, 1, 11, 1, pmc_142)) rfl rfl (cm_142 (pw_dp hd (by decide)) I (la) (by omega) (by omega)) ?_
  rintro u2 v1 ⟨rfl, x3, rfl, hx3a, hx3b, hx3r⟩
  refine ⟨_, rfl, ?_⟩
  show pw X d h 144 4 [some (.ref 16), some (pw_i la), some (pw_i sd), some (pw_i k), some (pw_i mo)] [pw_i x3] _
  change (x3 = 1 ∧ 0 ≤ la ∧ la ≤ 3) ∨ (x3 = 0 ∧ ¬ (0 ≤ la ∧ la ≤ 3)) at hx3r
  rcases (by omega : x3 = 1 ∨ x3 = 0) with hb4 | hb4
  · skip
    refine pw_if E (pc' := 34) rfl (by decide) (by omega) (by omega) ?_ ?_
    · intro hc5
      change x3 = (0 : Int) at hc5
      exfalso; omega
    · intro hc6
      change ¬ (x3 = (0 : Int)) at hc6
      refine pw_ld E (pc' := 8) (st' := [pw_i sd]) rfl (fun _ => rfl) ?_
      refine pw_ld E (pc' := 9) (st' := [pw_i 0, pw_i sd]) rfl (fun _ => rfl) ?_
      refine pw_sip E (pc' := 12) rfl rfl (by decide) ?_
      refine pw_call (m' := 121) (As := [pw_i sd, pw_i 0, pw_i 9999]) (rest := []) (ls'' := [some (pw_i sd), some (pw_i 0), some (pw_i 9999)]) (Nat.le_trans (by decide) hd) E rfl (fun _ => pw_iS rfl rfl rfl) (rfl : pm_ent 121 = some (3, 3, 11, 1, pmc_121)) rfl rfl (cm_121 (pw_dp hd (by decide)) I (sd) (by omega) (by omega) (0) (by omega) (by omega) (9999) (by omega) (by omega)) ?_
      rintro u8 v7 ⟨rfl, x9, rfl, hx9a, hx9b, hx9r⟩
      refine ⟨_, rfl, ?_⟩
      show pw X d h 144 15 [some (.ref 16), some (pw_i la), some (pw_i sd), some (pw_i k), some (pw_i mo)] [pw_i x9] _
      change (x9 = 1 ∧ 0 ≤ sd ∧ sd ≤ 9999) ∨ (x9 = 0 ∧ ¬ (0 ≤ sd ∧ sd ≤ 9999)) at hx9r
      rcases (by omega : x9 = 1 ∨ x9 = 0) with hb10 | hb10
      · skip
        refine pw_if E (pc' := 34) rfl (by decide) (by omega) (by omega) ?_ ?_
        · intro hc11
          change x9 = (0 : Int) at hc11
          exfalso; omega
        · intro hc12
          change ¬ (x9 = (0 : Int)) at hc12
          refine pw_ld E (pc' := 19) (st' := [.ref 16]) rfl (fun _ => rfl) ?_
          refine pw_ld E (pc' := 20) (st' := [pw_i k, .ref 16]) rfl (fun _ => rfl) ?_
          obtain ⟨f13l, f13h, -⟩ := pw_obj (c := 0) I rfl
          refine pw_call (m' := 124) (As := [.ref 16, pw_i k]) (rest := []) (ls'' := [some (.ref 16), some (pw_i k)]) (Nat.le_trans (by decide) hd) E rfl (fun _ => pw_iV rfl rfl rfl rfl (pw_cellI f13h rfl)) (rfl : pm_ent 124 = some (2, 2, 11, 1, pmc_124)) rfl rfl (cm_124_t (pw_dp hd (by decide)) I (k) (by omega) (by omega)) ?_
          rintro u15 v14 ⟨rfl, x16, rfl, hx16a, hx16b, hx16r⟩
          refine ⟨_, rfl, ?_⟩
          show pw X d h 144 23 [some (.ref 16), some (pw_i la), some (pw_i sd), some (pw_i k), some (pw_i mo)] [pw_i x16] _
          change (x16 = 1 ∧ 0 ≤ k ∧ k ≤ 23 ∧ pw_g h 2 k.toNat = 1) ∨ (x16 = 0 ∧ ¬ (0 ≤ k ∧ k ≤ 23 ∧ pw_g h 2 k.toNat = 1)) at hx16r
          rcases (by omega : x16 = 1 ∨ x16 = 0) with hb17 | hb17
          · skip
            refine pw_if E (pc' := 34) rfl (by decide) (by omega) (by omega) ?_ ?_
            · intro hc18
              change x16 = (0 : Int) at hc18
              exfalso; omega
            · intro hc19
              change ¬ (x16 = (0 : Int)) at hc19
              refine pw_ld E (pc' := 28) (st' := [pw_i mo]) rfl (fun _ => rfl) ?_
              refine pw_call (m' := 125) (As := [pw_i mo]) (rest := []) (ls'' := [some (pw_i mo)]) (Nat.le_trans (by decide) hd) E rfl (fun _ => pw_iS rfl rfl rfl) (rfl : pm_ent 125 = some (1, 1, 11, 1, pmc_125)) rfl rfl (cm_125 (pw_dp hd (by decide)) I (mo) (by omega) (by omega)) ?_
              rintro u21 v20 ⟨rfl, x22, rfl, hx22a, hx22b, hx22r⟩
              refine ⟨_, rfl, ?_⟩
              show pw X d h 144 31 [some (.ref 16), some (pw_i la), some (pw_i sd), some (pw_i k), some (pw_i mo)] [pw_i x22] _
              change (x22 = 1 ∧ 0 ≤ mo ∧ mo ≤ 11) ∨ (x22 = 0 ∧ ¬ (0 ≤ mo ∧ mo ≤ 11)) at hx22r
              rcases (by omega : x22 = 1 ∨ x22 = 0) with hb23 | hb23
              · skip
                refine pw_if E (pc' := 36) rfl (by decide) (by omega) (by omega) ?_ ?_
                · intro hc24
                  change x22 ≠ (0 : Int) at hc24
                  refine pw_ld E (pc' := 37) (st' := [.ref 16]) rfl (fun _ => rfl) ?_
                  refine pw_getR (b := 112) I E (c := 0) (k := 17) (pc' := 40) rfl rfl rfl rfl rfl rfl rfl ?_
                  refine pw_ld E (pc' := 41) (st' := [.ref 16, .ref 112]) rfl (fun _ => rfl) ?_
                  refine pw_getR (b := 53) I E (c := 0) (k := 14) (pc' := 44) rfl rfl rfl rfl rfl rfl rfl ?_
                  refine pw_ld E (pc' := 45) (st' := [pw_i la, .ref 53, .ref 112]) rfl (fun _ => rfl) ?_
                  rcases (by omega : la = 0 ∨ la = 1 ∨ la = 2 ∨ la = 3) with hj25 | hj25 | hj25 | hj25
                  · refine pw_aald (b := 55) I E (c := 37) (pc' := 46) rfl rfl (by decide) rfl (by decide) (by omega) (by omega) (by rw [hj25]; rfl) rfl ?_
                    refine pw_ld E (pc' := 47) (st' := [pw_i sd, .ref 55, .ref 112]) rfl (fun _ => rfl) ?_
                    refine pw_ld E (pc' := 49) (st' := [pw_i mo, pw_i sd, .ref 55, .ref 112]) rfl (fun _ => rfl) ?_
                    obtain ⟨hSC, hGD⟩ := hp0 0 (by decide) (by decide)
                    change px_SC 0 h 39 (TH 0) (CC 0) (NN 0) at hSC
                    obtain ⟨f26l, f26h, -⟩ := pw_obj (c := 96) I rfl
                    refine pw_call (m' := 113) (As := [.ref 112, .ref 55, pw_i sd, pw_i mo]) (rest := []) (ls'' := [some (.ref 112), some (.ref 55), some (pw_i sd), some (pw_i mo), none, none]) (Nat.le_trans (by decide) hd) E rfl (fun _ => pw_iV rfl rfl rfl rfl (pw_cellI f26h rfl)) (rfl : pm_ent 113 = some (4, 6, 10, 4, pmc_113)) rfl rfl (cm_113_x (pw_dp hd (by decide)) I 39 (by unfold pw_Sc; omega) (sd) (by omega) (by omega) (mo) (by omega) (by omega) (TH 0) (CC 0) (NN 0) hSC hGD) ?_
                    rintro h27 v28 ⟨h27I, h27E, hq113, rfl⟩
                    refine ⟨_, rfl, ?_⟩
                    have h27F := E0.tr (h27E.wk (W' := [96, 98, 99, 44, 58, 72, 86]) (by first | rfl | simp))
                    show pw X d h27 144 52 [some (.ref 16), some (pw_i la), some (pw_i sd), some (pw_i k), some (pw_i mo)] [] _
                    refine pw_ld E (pc' := 53) (st' := [.ref 16]) rfl (fun _ => rfl) ?_
                    refine pw_getR (b := 112) h27I E (c := 0) (k := 17) (pc' := 56) rfl rfl rfl rfl rfl rfl rfl ?_
                    obtain ⟨f29l, f29h, -⟩ := pw_obj (c := 96) h27I rfl
                    refine pw_call (m' := 117) (As := [.ref 112]) (rest := []) (ls'' := [some (.ref 112)]) (Nat.le_trans (by decide) hd) E rfl (fun _ => pw_iV rfl rfl rfl rfl (pw_cellI f29h rfl)) (rfl : pm_ent 117 = some (1, 1, 10, 3, pmc_117)) rfl rfl (cm_117 (pw_dp hd (by decide)) h27I ) ?_
                    rintro u31 v30 ⟨rfl, rfl⟩
                    refine ⟨_, rfl, ?_⟩
                    show pw X d h27 144 59 [some (.ref 16), some (pw_i la), some (pw_i sd), some (pw_i k), some (pw_i mo)] [.ref 113] _
                    refine pw_ld E (pc' := 60) (st' := [pw_i k, .ref 113]) rfl (fun _ => rfl) ?_
                    refine pw_ld E (pc' := 62) (st' := [pw_i mo, pw_i k, .ref 113]) rfl (fun _ => rfl) ?_
                    refine pw_ld E (pc' := 63) (st' := [.ref 16, pw_i mo, pw_i k, .ref 113]) rfl (fun _ => rfl) ?_
                    refine pw_getI2 h27I E (c := 0) (k := 6) (pc' := 66) rfl rfl rfl rfl rfl rfl (fun hf32a hf32b => ?_)
                    obtain ⟨f33l, f33h, -⟩ := pw_obj (c := 97) h27I rfl
                    refine pw_call (m' := 20) (As := [.ref 113, pw_i k, pw_i mo, pw_i (pw_g h27 0 6)]) (rest := []) (ls'' := [some (.ref 113), some (pw_i k), some (pw_i mo), some (pw_i (pw_g h27 0 6))]) (Nat.le_trans (by decide) hd) E rfl (fun _ => pw_iV rfl rfl rfl rfl (pw_cellI f33h rfl)) (rfl : pm_ent 20 = some (4, 4, 2, 0, pmc_20)) rfl rfl (cm_20_97x (pw_dp hd (by decide)) h27I (k) (by omega) (by omega) (mo) (by omega) (by omega) (pw_g h27 0 6) (by omega) (by omega)) ?_
                    rintro u35 v34 ⟨rfl, x36, rfl, hx36a, hx36b, hx36r⟩
                    refine ⟨_, rfl, ?_⟩
                    show pw X d h27 144 69 [some (.ref 16), some (pw_i la), some (pw_i sd), some (pw_i k), some (pw_i mo)] [pw_i x36] _
                    change x36 = (max 0 (pw_g h27 98 (k * 12 + mo).toNat) / 100) * 10 + (max 0 (pw_g h27 98 (k * 12 + mo).toNat) % 100) * (pw_g h27 0 6) at hx36r
                    refine pw_iret E rfl ?_
                    have hla : la = 0 := by omega
                    have h06 : pw_g h27 0 6 = pw_g h 0 6 := pw_Eg (c := 0) I h27F rfl rfl 6
                    have hrow := px_mo.row hq113 (k * 12 + mo).toNat
                    have hres : x36 = pu_hd ((pu_S (pw_g h 2) (pw_g h 4) (pw_g h 5) (pw_g h 8) (pw_g h 9) (TH la) (CC la) sd (pu_r1 (pw_g h 11) 24) (mo + 1)).2 (k * 12 + mo).toNat) (pw_g h 0 6) := by rw [hx36r, hrow, h06, hla]; rfl
                    exact ⟨h27I, h27F, ⟨_, rfl, by omega, by omega, Or.inl ⟨by omega, hres⟩⟩⟩
                  · refine pw_aald (b := 69) I E (c := 37) (pc' := 46) rfl rfl (by decide) rfl (by decide) (by omega) (by omega) (by rw [hj25]; rfl) rfl ?_
                    refine pw_ld E (pc' := 47) (st' := [pw_i sd, .ref 69, .ref 112]) rfl (fun _ => rfl) ?_
                    refine pw_ld E (pc' := 49) (st' := [pw_i mo, pw_i sd, .ref 69, .ref 112]) rfl (fun _ => rfl) ?_
                    obtain ⟨hSC, hGD⟩ := hp0 1 (by decide) (by decide)
                    change px_SC 0 h 53 (TH 1) (CC 1) (NN 1) at hSC
                    obtain ⟨f37l, f37h, -⟩ := pw_obj (c := 96) I rfl
                    refine pw_call (m' := 113) (As := [.ref 112, .ref 69, pw_i sd, pw_i mo]) (rest := []) (ls'' := [some (.ref 112), some (.ref 69), some (pw_i sd), some (pw_i mo), none, none]) (Nat.le_trans (by decide) hd) E rfl (fun _ => pw_iV rfl rfl rfl rfl (pw_cellI f37h rfl)) (rfl : pm_ent 113 = some (4, 6, 10, 4, pmc_113)) rfl rfl (cm_113_x (pw_dp hd (by decide)) I 53 (by unfold pw_Sc; omega) (sd) (by omega) (by omega) (mo) (by omega) (by omega) (TH 1) (CC 1) (NN 1) hSC hGD) ?_
                    rintro h38 v39 ⟨h38I, h38E, hq113, rfl⟩
                    refine ⟨_, rfl, ?_⟩
                    have h38F := E0.tr (h38E.wk (W' := [96, 98, 99, 44, 58, 72, 86]) (by first | rfl | simp))
                    show pw X d h38 144 52 [some (.ref 16), some (pw_i la), some (pw_i sd), some (pw_i k), some (pw_i mo)] [] _
                    refine pw_ld E (pc' := 53) (st' := [.ref 16]) rfl (fun _ => rfl) ?_
                    refine pw_getR (b := 112) h38I E (c := 0) (k := 17) (pc' := 56) rfl rfl rfl rfl rfl rfl rfl ?_
                    obtain ⟨f40l, f40h, -⟩ := pw_obj (c := 96) h38I rfl
                    refine pw_call (m' := 117) (As := [.ref 112]) (rest := []) (ls'' := [some (.ref 112)]) (Nat.le_trans (by decide) hd) E rfl (fun _ => pw_iV rfl rfl rfl rfl (pw_cellI f40h rfl)) (rfl : pm_ent 117 = some (1, 1, 10, 3, pmc_117)) rfl rfl (cm_117 (pw_dp hd (by decide)) h38I ) ?_
                    rintro u42 v41 ⟨rfl, rfl⟩
                    refine ⟨_, rfl, ?_⟩
                    show pw X d h38 144 59 [some (.ref 16), some (pw_i la), some (pw_i sd), some (pw_i k), some (pw_i mo)] [.ref 113] _
                    refine pw_ld E (pc' := 60) (st' := [pw_i k, .ref 113]) rfl (fun _ => rfl) ?_
                    refine pw_ld E (pc' := 62) (st' := [pw_i mo, pw_i k, .ref 113]) rfl (fun _ => rfl) ?_
                    refine pw_ld E (pc' := 63) (st' := [.ref 16, pw_i mo, pw_i k, .ref 113]) rfl (fun _ => rfl) ?_
                    refine pw_getI2 h38I E (c := 0) (k := 6) (pc' := 66) rfl rfl rfl rfl rfl rfl (fun hf43a hf43b => ?_)
                    obtain ⟨f44l, f44h, -⟩ := pw_obj (c := 97) h38I rfl
                    refine pw_call (m' := 20) (As := [.ref 113, pw_i k, pw_i mo, pw_i (pw_g h38 0 6)]) (rest := []) (ls'' := [some (.ref 113), some (pw_i k), some (pw_i mo), some (pw_i (pw_g h38 0 6))]) (Nat.le_trans (by decide) hd) E rfl (fun _ => pw_iV rfl rfl rfl rfl (pw_cellI f44h rfl)) (rfl : pm_ent 20 = some (4, 4, 2, 0, pmc_20)) rfl rfl (cm_20_97x (pw_dp hd (by decide)) h38I (k) (by omega) (by omega) (mo) (by omega) (by omega) (pw_g h38 0 6) (by omega) (by omega)) ?_
                    rintro u46 v45 ⟨rfl, x47, rfl, hx47a, hx47b, hx47r⟩
                    refine ⟨_, rfl, ?_⟩
                    show pw X d h38 144 69 [some (.ref 16), some (pw_i la), some (pw_i sd), some (pw_i k), some (pw_i mo)] [pw_i x47] _
                    change x47 = (max 0 (pw_g h38 98 (k * 12 + mo).toNat) / 100) * 10 + (max 0 (pw_g h38 98 (k * 12 + mo).toNat) % 100) * (pw_g h38 0 6) at hx47r
                    refine pw_iret E rfl ?_
                    have hla : la = 1 := by omega
                    have h06 : pw_g h38 0 6 = pw_g h 0 6 := pw_Eg (c := 0) I h38F rfl rfl 6
                    have hrow := px_mo.row hq113 (k * 12 + mo).toNat
                    have hres : x47 = pu_hd ((pu_S (pw_g h 2) (pw_g h 4) (pw_g h 5) (pw_g h 8) (pw_g h 9) (TH la) (CC la) sd (pu_r1 (pw_g h 11) 24) (mo + 1)).2 (k * 12 + mo).toNat) (pw_g h 0 6) := by rw [hx47r, hrow, h06, hla]; rfl
                    exact ⟨h38I, h38F, ⟨_, rfl, by omega, by omega, Or.inl ⟨by omega, hres⟩⟩⟩
                  · refine pw_aald (b := 83) I E (c := 37) (pc' := 46) rfl rfl (by decide) rfl (by decide) (by omega) (by omega) (by rw [hj25]; rfl) rfl ?_
                    refine pw_ld E (pc' := 47) (st' := [pw_i sd, .ref 83, .ref 112]) rfl (fun _ => rfl) ?_
                    refine pw_ld E (pc' := 49) (st' := [pw_i mo, pw_i sd, .ref 83, .ref 112]) rfl (fun _ => rfl) ?_
                    obtain ⟨hSC, hGD⟩ := hp0 2 (by decide) (by decide)
                    change px_SC 0 h 67 (TH 2) (CC 2) (NN 2) at hSC
                    obtain ⟨f48l, f48h, -⟩ := pw_obj (c := 96) I rfl
                    refine pw_call (m' := 113) (As := [.ref 112, .ref 83, pw_i sd, pw_i mo]) (rest := []) (ls'' := [some (.ref 112), some (.ref 83), some (pw_i sd), some (pw_i mo), none, none]) (Nat.le_trans (by decide) hd) E rfl (fun _ => pw_iV rfl rfl rfl rfl (pw_cellI f48h rfl)) (rfl : pm_ent 113 = some (4, 6, 10, 4, pmc_113)) rfl rfl (cm_113_x (pw_dp hd (by decide)) I 67 (by unfold pw_Sc; omega) (sd) (by omega) (by omega) (mo) (by omega) (by omega) (TH 2) (CC 2) (NN 2) hSC hGD) ?_
                    rintro h49 v50 ⟨h49I, h49E, hq113, rfl⟩
                    refine ⟨_, rfl, ?_⟩
                    have h49F := E0.tr (h49E.wk (W' := [96, 98, 99, 44, 58, 72, 86]) (by first | rfl | simp))
                    show pw X d h49 144 52 [some (.ref 16), some (pw_i la), some (pw_i sd), some (pw_i k), some (pw_i mo)] [] _
                    refine pw_ld E (pc' := 53) (st' := [.ref 16]) rfl (fun _ => rfl) ?_
                    refine pw_getR (b := 112) h49I E (c := 0) (k := 17) (pc' := 56) rfl rfl rfl rfl rfl rfl rfl ?_
                    obtain ⟨f51l, f51h, -⟩ := pw_obj (c := 96) h49I rfl
                    refine pw_call (m' := 117) (As := [.ref 112]) (rest := []) (ls'' := [some (.ref 112)]) (Nat.le_trans (by decide) hd) E rfl (fun _ => pw_iV rfl rfl rfl rfl (pw_cellI f51h rfl)) (rfl : pm_ent 117 = some (1, 1, 10, 3, pmc_117)) rfl rfl (cm_117 (pw_dp hd (by decide)) h49I ) ?_
                    rintro u53 v52 ⟨rfl, rfl⟩
                    refine ⟨_, rfl, ?_⟩
                    show pw X d h49 144 59 [some (.ref 16), some (pw_i la), some (pw_i sd), some (pw_i k), some (pw_i mo)] [.ref 113] _
                    refine pw_ld E (pc' := 60) (st' := [pw_i k, .ref 113]) rfl (fun _ => rfl) ?_
                    refine pw_ld E (pc' := 62) (st' := [pw_i mo, pw_i k, .ref 113]) rfl (fun _ => rfl) ?_
                    refine pw_ld E (pc' := 63) (st' := [.ref 16, pw_i mo, pw_i k, .ref 113]) rfl (fun _ => rfl) ?_
                    refine pw_getI2 h49I E (c := 0) (k := 6) (pc' := 66) rfl rfl rfl rfl rfl rfl (fun hf54a hf54b => ?_)
                    obtain ⟨f55l, f55h, -⟩ := pw_obj (c := 97) h49I rfl
                    refine pw_call (m' := 20) (As := [.ref 113, pw_i k, pw_i mo, pw_i (pw_g h49 0 6)]) (rest := []) (ls'' := [some (.ref 113), some (pw_i k), some (pw_i mo), some (pw_i (pw_g h49 0 6))]) (Nat.le_trans (by decide) hd) E rfl (fun _ => pw_iV rfl rfl rfl rfl (pw_cellI f55h rfl)) (rfl : pm_ent 20 = some (4, 4, 2, 0, pmc_20)) rfl rfl (cm_20_97x (pw_dp hd (by decide)) h49I (k) (by omega) (by omega) (mo) (by omega) (by omega) (pw_g h49 0 6) (by omega) (by omega)) ?_
                    rintro u57 v56 ⟨rfl, x58, rfl, hx58a, hx58b, hx58r⟩
                    refine ⟨_, rfl, ?_⟩
                    show pw X d h49 144 69 [some (.ref 16), some (pw_i la), some (pw_i sd), some (pw_i k), some (pw_i mo)] [pw_i x58] _
                    change x58 = (max 0 (pw_g h49 98 (k * 12 + mo).toNat) / 100) * 10 + (max 0 (pw_g h49 98 (k * 12 + mo).toNat) % 100) * (pw_g h49 0 6) at hx58r
                    refine pw_iret E rfl ?_
                    have hla : la = 2 := by omega
                    have h06 : pw_g h49 0 6 = pw_g h 0 6 := pw_Eg (c := 0) I h49F rfl rfl 6
                    have hrow := px_mo.row hq113 (k * 12 + mo).toNat
                    have hres : x58 = pu_hd ((pu_S (pw_g h 2) (pw_g h 4) (pw_g h 5) (pw_g h 8) (pw_g h 9) (TH la) (CC la) sd (pu_r1 (pw_g h 11) 24) (mo + 1)).2 (k * 12 + mo).toNat) (pw_g h 0 6) := by rw [hx58r, hrow, h06, hla]; rfl
                    exact ⟨h49I, h49F, ⟨_, rfl, by omega, by omega, Or.inl ⟨by omega, hres⟩⟩⟩
                  · refine pw_aald (b := 97) I E (c := 37) (pc' := 46) rfl rfl (by decide) rfl (by decide) (by omega) (by omega) (by rw [hj25]; rfl) rfl ?_
                    refine pw_ld E (pc' := 47) (st' := [pw_i sd, .ref 97, .ref 112]) rfl (fun _ => rfl) ?_
                    refine pw_ld E (pc' := 49) (st' := [pw_i mo, pw_i sd, .ref 97, .ref 112]) rfl (fun _ => rfl) ?_
                    obtain ⟨hSC, hGD⟩ := hp0 3 (by decide) (by decide)
                    change px_SC 0 h 81 (TH 3) (CC 3) (NN 3) at hSC
                    obtain ⟨f59l, f59h, -⟩ := pw_obj (c := 96) I rfl
                    refine pw_call (m' := 113) (As := [.ref 112, .ref 97, pw_i sd, pw_i mo]) (rest := []) (ls'' := [some (.ref 112), some (.ref 97), some (pw_i sd), some (pw_i mo), none, none]) (Nat.le_trans (by decide) hd) E rfl (fun _ => pw_iV rfl rfl rfl rfl (pw_cellI f59h rfl)) (rfl : pm_ent 113 = some (4, 6, 10, 4, pmc_113)) rfl rfl (cm_113_x (pw_dp hd (by decide)) I 81 (by unfold pw_Sc; omega) (sd) (by omega) (by omega) (mo) (by omega) (by omega) (TH 3) (CC 3) (NN 3) hSC hGD) ?_
                    rintro h60 v61 ⟨h60I, h60E, hq113, rfl⟩
                    refine ⟨_, rfl, ?_⟩
                    have h60F := E0.tr (h60E.wk (W' := [96, 98, 99, 44, 58, 72, 86]) (by first | rfl | simp))
                    show pw X d h60 144 52 [some (.ref 16), some (pw_i la), some (pw_i sd), some (pw_i k), some (pw_i mo)] [] _
                    refine pw_ld E (pc' := 53) (st' := [.ref 16]) rfl (fun _ => rfl) ?_
                    refine pw_getR (b := 112) h60I E (c := 0) (k := 17) (pc' := 56) rfl rfl rfl rfl rfl rfl rfl ?_
                    obtain ⟨f62l, f62h, -⟩ := pw_obj (c := 96) h60I rfl
                    refine pw_call (m' := 117) (As := [.ref 112]) (rest := []) (ls'' := [some (.ref 112)]) (Nat.le_trans (by decide) hd) E rfl (fun _ => pw_iV rfl rfl rfl rfl (pw_cellI f62h rfl)) (rfl : pm_ent 117 = some (1, 1, 10, 3, pmc_117)) rfl rfl (cm_117 (pw_dp hd (by decide)) h60I ) ?_
                    rintro u64 v63 ⟨rfl, rfl⟩
                    refine ⟨_, rfl, ?_⟩
                    show pw X d h60 144 59 [some (.ref 16), some (pw_i la), some (pw_i sd), some (pw_i k), some (pw_i mo)] [.ref 113] _
                    refine pw_ld E (pc' := 60) (st' := [pw_i k, .ref 113]) rfl (fun _ => rfl) ?_
                    refine pw_ld E (pc' := 62) (st' := [pw_i mo, pw_i k, .ref 113]) rfl (fun _ => rfl) ?_
                    refine pw_ld E (pc' := 63) (st' := [.ref 16, pw_i mo, pw_i k, .ref 113]) rfl (fun _ => rfl) ?_
                    refine pw_getI2 h60I E (c := 0) (k := 6) (pc' := 66) rfl rfl rfl rfl rfl rfl (fun hf65a hf65b => ?_)
                    obtain ⟨f66l, f66h, -⟩ := pw_obj (c := 97) h60I rfl
                    refine pw_call (m' := 20) (As := [.ref 113, pw_i k, pw_i mo, pw_i (pw_g h60 0 6)]) (rest := []) (ls'' := [some (.ref 113), some (pw_i k), some (pw_i mo), some (pw_i (pw_g h60 0 6))]) (Nat.le_trans (by decide) hd) E rfl (fun _ => pw_iV rfl rfl rfl rfl (pw_cellI f66h rfl)) (rfl : pm_ent 20 = some (4, 4, 2, 0, pmc_20)) rfl rfl (cm_20_97x (pw_dp hd (by decide)) h60I (k) (by omega) (by omega) (mo) (by omega) (by omega) (pw_g h60 0 6) (by omega) (by omega)) ?_
                    rintro u68 v67 ⟨rfl, x69, rfl, hx69a, hx69b, hx69r⟩
                    refine ⟨_, rfl, ?_⟩
                    show pw X d h60 144 69 [some (.ref 16), some (pw_i la), some (pw_i sd), some (pw_i k), some (pw_i mo)] [pw_i x69] _
                    change x69 = (max 0 (pw_g h60 98 (k * 12 + mo).toNat) / 100) * 10 + (max 0 (pw_g h60 98 (k * 12 + mo).toNat) % 100) * (pw_g h60 0 6) at hx69r
                    refine pw_iret E rfl ?_
                    have hla : la = 3 := by omega
                    have h06 : pw_g h60 0 6 = pw_g h 0 6 := pw_Eg (c := 0) I h60F rfl rfl 6
                    have hrow := px_mo.row hq113 (k * 12 + mo).toNat
                    have hres : x69 = pu_hd ((pu_S (pw_g h 2) (pw_g h 4) (pw_g h 5) (pw_g h 8) (pw_g h 9) (TH la) (CC la) sd (pu_r1 (pw_g h 11) 24) (mo + 1)).2 (k * 12 + mo).toNat) (pw_g h 0 6) := by rw [hx69r, hrow, h06, hla]; rfl
                    exact ⟨h60I, h60F, ⟨_, rfl, by omega, by omega, Or.inl ⟨by omega, hres⟩⟩⟩
                · intro hc70
                  change ¬ (x22 ≠ (0 : Int)) at hc70
                  exfalso; omega
              · skip
                refine pw_if E (pc' := 36) rfl (by decide) (by omega) (by omega) ?_ ?_
                · intro hc72
                  change x22 ≠ (0 : Int) at hc72
                  exfalso; omega
                · intro hc73
                  change ¬ (x22 ≠ (0 : Int)) at hc73
                  refine pw_ld E (pc' := 35) (st' := [pw_i ((-1))]) rfl (fun _ => rfl) ?_
                  refine pw_iret E rfl ?_
                  exact ⟨I, E0, ⟨_, rfl, by omega, by omega, Or.inr ⟨by omega, rfl⟩⟩⟩
          · skip
            refine pw_if E (pc' := 34) rfl (by decide) (by omega) (by omega) ?_ ?_
            · intro hc75
              change x16 = (0 : Int) at hc75
              refine pw_ld E (pc' := 35) (st' := [pw_i ((-1))]) rfl (fun _ => rfl) ?_
              refine pw_iret E rfl ?_
              exact ⟨I, E0, ⟨_, rfl, by omega, by omega, Or.inr ⟨by omega, rfl⟩⟩⟩
            · intro hc76
              change ¬ (x16 = (0 : Int)) at hc76
              exfalso; omega
      · skip
        refine pw_if E (pc' := 34) rfl (by decide) (by omega) (by omega) ?_ ?_
        · intro hc78
          change x9 = (0 : Int) at hc78
          refine pw_ld E (pc' := 35) (st' := [pw_i ((-1))]) rfl (fun _ => rfl) ?_
          refine pw_iret E rfl ?_
          exact ⟨I, E0, ⟨_, rfl, by omega, by omega, Or.inr ⟨by omega, rfl⟩⟩⟩
        · intro hc79
          change ¬ (x9 = (0 : Int)) at hc79
          exfalso; omega
  · skip
    refine pw_if E (pc' := 34) rfl (by decide) (by omega) (by omega) ?_ ?_
    · intro hc81
      change x3 = (0 : Int) at hc81
      refine pw_ld E (pc' := 35) (st' := [pw_i ((-1))]) rfl (fun _ => rfl) ?_
      refine pw_iret E rfl ?_
      exact ⟨I, E0, ⟨_, rfl, by omega, by omega, Or.inr ⟨by omega, rfl⟩⟩⟩
    · intro hc82
      change ¬ (x3 = (0 : Int)) at hc82
      exfalso; omega
end
section
/-! what the model says of a world -/
set_option maxHeartbeats 4000000 in
theorem cm_267_x {X : List (Nat × List Value)} {d : Nat} {h : pm_H} (hd : 2 ≤ d) (I : pw_I h) (k : Int) (hk1 : 0 ≤ k) (hk2 : k ≤ 23) (mo : Int) (hmo1 : 0 ≤ mo) (hmo2 : mo ≤ 11) : pw X d h 267 0 [some (.ref 141), some (pw_i k), some (pw_i mo)] [] (fun h' v => h = h' ∧ ∃ a : Int, v = .inl (some (pw_i a)) ∧ 0 ≤ a ∧ a ≤ 2000 ∧ (a = 10 * pw_g h 151 (12 * k + mo).toNat + pw_g h 125 15 * pw_g h 152 (12 * k + mo).toNat)) := by
  have E : pm_ent 267 = some (3, 3, 12, 0, pmc_267) := rfl
  refine pw_ld E (pc' := 1) (st' := [.ref 141]) rfl (fun _ => rfl) ?_
  refine pw_ld E (pc' := 2) (st' := [.ref 141, .ref 141]) rfl (fun _ => rfl) ?_
  refine pw_getR (b := 167) I E (c := 125) (k := 38) (pc' := 5) rfl rfl rfl rfl rfl rfl rfl ?_
  refine pw_bip E (pc' := 7) rfl rfl (by decide) ?_
  refine pw_ld E (pc' := 8) (st' := [pw_i k, pw_i 12, .ref 167, .ref 141]) rfl (fun _ => rfl) ?_
  refine pw_mul E (pc' := 9) rfl rfl ?_
  refine pw_ld E (pc' := 10) (st' := [pw_i mo, pw_i (12 * k), .ref 167, .ref 141]) rfl (fun _ => rfl) ?_
  refine pw_add E (pc' := 11) rfl rfl ?_
  refine pw_ald2 I E (c := 151) (pc' := 12) rfl rfl rfl (by decide) rfl (by decide) (by omega) (by omega) rfl (fun hf1a hf1b => ?_)
  refine pw_ld E (pc' := 13) (st' := [.ref 141, pw_i (pw_g h 151 (((12 * k) + mo).toNat)), .ref 141]) rfl (fun _ => rfl) ?_
  refine pw_getR (b := 168) I E (c := 125) (k := 39) (pc' := 16) rfl rfl rfl rfl rfl rfl rfl ?_
  refine pw_bip E (pc' := 18) rfl rfl (by decide) ?_
  refine pw_ld E (pc' := 19) (st' := [pw_i k, pw_i 12, .ref 168, pw_i (pw_g h 151 (((12 * k) + mo).toNat)), .ref 141]) rfl (fun _ => rfl) ?_
  refine pw_mul E (pc' := 20) rfl rfl ?_
  refine pw_ld E (pc' := 21) (st' := [pw_i mo, pw_i (12 * k), .ref 168, pw_i (pw_g h 151 (((12 * k) + mo).toNat)), .ref 141]) rfl (fun _ => rfl) ?_
  refine pw_add E (pc' := 22) rfl rfl ?_
  refine pw_ald2 I E (c := 152) (pc' := 23) rfl rfl rfl (by decide) rfl (by decide) (by omega) (by omega) rfl (fun hf2a hf2b => ?_)
  obtain ⟨f3l, f3h, -⟩ := pw_obj (c := 125) I rfl
  refine pw_call (m' := 211) (As := [.ref 141, pw_i (pw_g h 151 (((12 * k) + mo).toNat)), pw_i (pw_g h 152 (((12 * k) + mo).toNat))]) (rest := []) (ls'' := [some (.ref 141), some (pw_i (pw_g h 151 (((12 * k) + mo).toNat))), some (pw_i (pw_g h 152 (((12 * k) + mo).toNat)))]) (Nat.le_trans (by decide) hd) E rfl (fun _ => pw_iV rfl rfl rfl rfl (pw_cellI f3h rfl)) (rfl : pm_ent 211 = some (3, 3, 12, 0, pmc_211)) rfl rfl (cm_211_h (pw_dp hd (by decide)) I (pw_g h 151 (((12 * k) + mo).toNat)) (by omega) (by omega) (pw_g h 152 (((12 * k) + mo).toNat)) (by omega) (by omega)) ?_
  rintro u5 v4 ⟨rfl, x6, rfl, hx6a, hx6b, hx6r⟩
  refine ⟨_, rfl, ?_⟩
  show pw X d h 267 26 [some (.ref 141), some (pw_i k), some (pw_i mo)] [pw_i x6] _
  change x6 = 10 * (pw_g h 151 (((12 * k) + mo).toNat)) + pw_g h 125 15 * (pw_g h 152 (((12 * k) + mo).toNat)) at hx6r
  refine pw_iret E rfl ?_
  exact ⟨rfl, ⟨_, rfl, by omega, by omega, hx6r⟩⟩
set_option maxHeartbeats 4000000 in
theorem cm_259_x {X : List (Nat × List Value)} {d : Nat} {h : pm_H} (hd : 7 ≤ d) (I : pw_I h) (l : Int) (hl1 : (-2147483648) ≤ l) (hl2 : l ≤ 2147483647) (sd : Int) (hsd1 : (-2147483648) ≤ sd) (hsd2 : sd ≤ 2147483647) (k : Int) (hk1 : (-2147483648) ≤ k) (hk2 : k ≤ 2147483647) (mo : Int) (hmo1 : (-2147483648) ≤ mo) (hmo2 : mo ≤ 2147483647) (r : Nat → Int) (TH : Int → Int → Int) (CC : Int → Int → List Int) (hp0 : pu_Wi h r) (hp1 : pt_LW4 h TH CC) : pw X d h 259 0 [some (.ref 141), some (pw_i l), some (pw_i sd), some (pw_i k), some (pw_i mo)] [] (fun h' v => pw_I h' ∧ pw_E [125, 149, 150, 151, 152, 153] h h' ∧ ∃ a : Int, v = .inl (some (pw_i a)) ∧ (-2147483648) ≤ a ∧ a ≤ 2147483647 ∧ (((0 ≤ l ∧ l ≤ 3 ∧ 0 ≤ sd ∧ sd ≤ 9999 ∧ (0 ≤ k ∧ k ≤ 23 ∧ pw_g h 131 k.toNat = 1) ∧ 0 ≤ mo ∧ mo ≤ 11) ∧ a = pu_hd ((pu_S (pw_g h 131) (pw_g h 132) (pw_g h 133) (pw_g h 136) (pw_g h 137) (TH l) (CC l) sd r 12).2 (12 * k + mo).toNat) (pw_g h 125 15)) ∨ (¬ (0 ≤ l ∧ l ≤ 3 ∧ 0 ≤ sd ∧ sd ≤ 9999 ∧ (0 ≤ k ∧ k ≤ 23 ∧ pw_g h 131 k.toNat = 1) ∧ 0 ≤ mo ∧ mo ≤ 11) ∧ a = -1))) := by
  have E : pm_ent 259 = some (5, 5, 12, 0, pmc_259) := rfl
  have E0 : pw_E [125, 149, 150, 151, 152, 153] h h := pw_E.rf _ _
  refine pw_ld E (pc' := 1) (st' := [.ref 141]) rfl (fun _ => rfl) ?_
  refine pw_ld E (pc' := 2) (st' := [pw_i 0, .ref 141]) rfl (fun _ => rfl) ?_
  refine pw_putI I E (c := 125) (k := 0) (pc' := 5) rfl rfl rfl rfl (by omega) (by omega) (by omega) (by omega) rfl rfl ?_
  intro h1I h1E
  generalize h1w : pw_w h 125 0 (pw_i 0) = h1 at h1I h1E ⊢
  have h1F := E0.tr (h1E.wk (W' := [125, 149, 150, 151, 152, 153]) (by first | rfl | simp))
  have kk : ∀ c j : Nat, c ≠ 125 → pw_g h1 c j = pw_g h c j := fun c j hc => by rw [← h1w]; exact pw_g_ne (fun q => hc q.1.symm)
  have k15 : pw_g h1 125 15 = pw_g h 125 15 := by rw [← h1w]; exact pw_g_ne (by omega)
  have kt : pw_g h1 131 k.toNat = pw_g h 131 k.toNat := kk 131 _ (by decide)
  refine pw_ld E (pc' := 6) (st' := [pw_i l]) rfl (fun _ => rfl) ?_
  refine pw_ld E (pc' := 7) (st' := [pw_i 0, pw_i l]) rfl (fun _ => rfl) ?_
  refine pw_ld E (pc' := 8) (st' := [pw_i 3, pw_i 0, pw_i l]) rfl (fun _ => rfl) ?_
  refine pw_call (m' := 202) (As := [pw_i l, pw_i 0, pw_i 3]) (rest := []) (ls'' := [some (pw_i l), some (pw_i 0), some (pw_i 3)]) (Nat.le_trans (by decide) hd) E rfl (fun _ => pw_iS rfl rfl rfl) (rfl : pm_ent 202 = some (3, 3, 12, 1, pmc_202)) rfl rfl (cm_202 (pw_dp hd (by decide)) h1I (l) (by omega) (by omega) (0) (by omega) (by omega) (3) (by omega) (by omega)) ?_
  rintro u3 v2 ⟨rfl, x4, rfl, hx4a, hx4b, hx4r⟩
  refine ⟨_, rfl, ?_⟩
  show pw X d h1 259 11 [some (.ref 141), some (pw_i l), some (pw_i sd), some (pw_i k), some (pw_i mo)] [pw_i x4] _
  change (x4 = 1 ∧ 0 ≤ l ∧ l ≤ 3) ∨ (x4 = 0 ∧ ¬ (0 ≤ l ∧ l ≤ 3)) at hx4r
  rcases (by omega : x4 = 1 ∨ x4 = 0) with hb5 | hb5
  · skip
    refine pw_if E (pc' := 41) rfl (by decide) (by omega) (by omega) ?_ ?_
    · intro hc6
      change x4 = (0 : Int) at hc6
      exfalso; omega
    · intro hc7
      change ¬ (x4 = (0 : Int)) at hc7
      refine pw_ld E (pc' := 15) (st' := [pw_i sd]) rfl (fun _ => rfl) ?_
      refine pw_ld E (pc' := 16) (st' := [pw_i 0, pw_i sd]) rfl (fun _ => rfl) ?_
      refine pw_sip E (pc' := 19) rfl rfl (by decide) ?_
      refine pw_call (m' := 202) (As := [pw_i sd, pw_i 0, pw_i 9999]) (rest := []) (ls'' := [some (pw_i sd), some (pw_i 0), some (pw_i 9999)]) (Nat.le_trans (by decide) hd) E rfl (fun _ => pw_iS rfl rfl rfl) (rfl : pm_ent 202 = some (3, 3, 12, 1, pmc_202)) rfl rfl (cm_202 (pw_dp hd (by decide)) h1I (sd) (by omega) (by omega) (0) (by omega) (by omega) (9999) (by omega) (by omega)) ?_
      rintro u9 v8 ⟨rfl, x10, rfl, hx10a, hx10b, hx10r⟩
      refine ⟨_, rfl, ?_⟩
      show pw X d h1 259 22 [some (.ref 141), some (pw_i l), some (pw_i sd), some (pw_i k), some (pw_i mo)] [pw_i x10] _
      change (x10 = 1 ∧ 0 ≤ sd ∧ sd ≤ 9999) ∨ (x10 = 0 ∧ ¬ (0 ≤ sd ∧ sd ≤ 9999)) at hx10r
      rcases (by omega : x10 = 1 ∨ x10 = 0) with hb11 | hb11
      · skip
        refine pw_if E (pc' := 41) rfl (by decide) (by omega) (by omega) ?_ ?_
        · intro hc12
          change x10 = (0 : Int) at hc12
          exfalso; omega
        · intro hc13
          change ¬ (x10 = (0 : Int)) at hc13
          refine pw_ld E (pc' := 26) (st' := [.ref 141]) rfl (fun _ => rfl) ?_
          refine pw_ld E (pc' := 27) (st' := [pw_i k, .ref 141]) rfl (fun _ => rfl) ?_
          obtain ⟨f14l, f14h, -⟩ := pw_obj (c := 125) h1I rfl
          refine pw_call (m' := 204) (As := [.ref 141, pw_i k]) (rest := []) (ls'' := [some (.ref 141), some (pw_i k)]) (Nat.le_trans (by decide) hd) E rfl (fun _ => pw_iV rfl rfl rfl rfl (pw_cellI f14h rfl)) (rfl : pm_ent 204 = some (2, 2, 12, 1, pmc_204)) rfl rfl (cm_204_t (pw_dp hd (by decide)) h1I (k) (by omega) (by omega)) ?_
          rintro u16 v15 ⟨rfl, x17, rfl, hx17a, hx17b, hx17r⟩
          refine ⟨_, rfl, ?_⟩
          show pw X d h1 259 30 [some (.ref 141), some (pw_i l), some (pw_i sd), some (pw_i k), some (pw_i mo)] [pw_i x17] _
          change (x17 = 1 ∧ 0 ≤ k ∧ k ≤ 23 ∧ pw_g h1 131 k.toNat = 1) ∨ (x17 = 0 ∧ ¬ (0 ≤ k ∧ k ≤ 23 ∧ pw_g h1 131 k.toNat = 1)) at hx17r
          rcases (by omega : x17 = 1 ∨ x17 = 0) with hb18 | hb18
          · skip
            refine pw_if E (pc' := 41) rfl (by decide) (by omega) (by omega) ?_ ?_
            · intro hc19
              change x17 = (0 : Int) at hc19
              exfalso; omega
            · intro hc20
              change ¬ (x17 = (0 : Int)) at hc20
              refine pw_ld E (pc' := 35) (st' := [pw_i mo]) rfl (fun _ => rfl) ?_
              refine pw_call (m' := 205) (As := [pw_i mo]) (rest := []) (ls'' := [some (pw_i mo)]) (Nat.le_trans (by decide) hd) E rfl (fun _ => pw_iS rfl rfl rfl) (rfl : pm_ent 205 = some (1, 1, 12, 1, pmc_205)) rfl rfl (cm_205 (pw_dp hd (by decide)) h1I (mo) (by omega) (by omega)) ?_
              rintro u22 v21 ⟨rfl, x23, rfl, hx23a, hx23b, hx23r⟩
              refine ⟨_, rfl, ?_⟩
              show pw X d h1 259 38 [some (.ref 141), some (pw_i l), some (pw_i sd), some (pw_i k), some (pw_i mo)] [pw_i x23] _
              change (x23 = 1 ∧ 0 ≤ mo ∧ mo ≤ 11) ∨ (x23 = 0 ∧ ¬ (0 ≤ mo ∧ mo ≤ 11)) at hx23r
              rcases (by omega : x23 = 1 ∨ x23 = 0) with hb24 | hb24
              · skip
                refine pw_if E (pc' := 43) rfl (by decide) (by omega) (by omega) ?_ ?_
                · intro hc25
                  change x23 ≠ (0 : Int) at hc25
                  refine pw_ld E (pc' := 44) (st' := [.ref 141]) rfl (fun _ => rfl) ?_
                  refine pw_ld E (pc' := 45) (st' := [pw_i l, .ref 141]) rfl (fun _ => rfl) ?_
                  refine pw_ld E (pc' := 46) (st' := [pw_i sd, pw_i l, .ref 141]) rfl (fun _ => rfl) ?_
                  obtain ⟨hM0, hGD⟩ := hp1 l (by omega) (by omega)
                  have hMS : pt_MS h1 l (TH l) (CC l) := hM0.fr I h1F rfl rfl rfl
                  have hWi : pu_Wi h1 r := fun q hq => by rw [kk 138 _ (by decide), kk 139 _ (by decide), kk 140 _ (by decide)]; exact hp0 q hq
                  obtain ⟨f26l, f26h, -⟩ := pw_obj (c := 125) h1I rfl
                  refine pw_call (m' := 260) (As := [.ref 141, pw_i l, pw_i sd]) (rest := []) (ls'' := [some (.ref 141), some (pw_i l), some (pw_i sd), none, none, none, none]) (Nat.le_trans (by decide) hd) E rfl (fun _ => pw_iV rfl rfl rfl rfl (pw_cellI f26h rfl)) (rfl : pm_ent 260 = some (3, 7, 12, 4, pmc_260)) rfl rfl (cm_260_x (pw_dp hd (by decide)) h1I (l) (by omega) (by omega) (sd) (by omega) (by omega) r (TH l) (CC l) hWi hMS hGD) ?_
                  rintro h27 v28 ⟨h27I, h27E, hq260, rfl⟩
                  refine ⟨_, rfl, ?_⟩
                  have h27F := h1F.tr (h27E.wk (W' := [125, 149, 150, 151, 152, 153]) (by first | rfl | simp))
                  show pw X d h27 259 49 [some (.ref 141), some (pw_i l), some (pw_i sd), some (pw_i k), some (pw_i mo)] [] _
                  refine pw_ld E (pc' := 50) (st' := [.ref 141]) rfl (fun _ => rfl) ?_
                  refine pw_ld E (pc' := 51) (st' := [pw_i k, .ref 141]) rfl (fun _ => rfl) ?_
                  refine pw_ld E (pc' := 53) (st' := [pw_i mo, pw_i k, .ref 141]) rfl (fun _ => rfl) ?_
                  obtain ⟨f29l, f29h, -⟩ := pw_obj (c := 125) h27I rfl
                  refine pw_call (m' := 267) (As := [.ref 141, pw_i k, pw_i mo]) (rest := []) (ls'' := [some (.ref 141), some (pw_i k), some (pw_i mo)]) (Nat.le_trans (by decide) hd) E rfl (fun _ => pw_iV rfl rfl rfl rfl (pw_cellI f29h rfl)) (rfl : pm_ent 267 = some (3, 3, 12, 0, pmc_267)) rfl rfl (cm_267_x (pw_dp hd (by decide)) h27I (k) (by omega) (by omega) (mo) (by omega) (by omega)) ?_
                  rintro u31 v30 ⟨rfl, x32, rfl, hx32a, hx32b, hx32r⟩
                  refine ⟨_, rfl, ?_⟩
                  show pw X d h27 259 56 [some (.ref 141), some (pw_i l), some (pw_i sd), some (pw_i k), some (pw_i mo)] [pw_i x32] _
                  change x32 = 10 * pw_g h27 151 (12 * k + mo).toNat + pw_g h27 125 15 * pw_g h27 152 (12 * k + mo).toNat at hx32r
                  refine pw_iret E rfl ?_
                  rw [show pw_g h1 131 = pw_g h 131 from funext fun j => kk 131 j (by decide), show pw_g h1 132 = pw_g h 132 from funext fun j => kk 132 j (by decide), show pw_g h1 133 = pw_g h 133 from funext fun j => kk 133 j (by decide), show pw_g h1 136 = pw_g h 136 from funext fun j => kk 136 j (by decide), show pw_g h1 137 = pw_g h 137 from funext fun j => kk 137 j (by decide)] at hq260
                  have hw := hq260 k.toNat mo.toNat (by omega) (Or.inl (by omega)) (Or.inr (by omega))
                  rw [show 12 * k.toNat + mo.toNat = (12 * k + mo).toNat by omega] at hw
                  have k15b : pw_g h27 125 15 = pw_g h 125 15 := (pw_Eg (c := 125) h1I h27E rfl rfl 15).trans k15
                  have hres : x32 = pu_hd ((pu_S (pw_g h 131) (pw_g h 132) (pw_g h 133) (pw_g h 136) (pw_g h 137) (TH l) (CC l) sd r 12).2 (12 * k + mo).toNat) (pw_g h 125 15) := by rw [hx32r, k15b]; exact (pu_hdW hw).symm
                  exact ⟨h27I, h27F, ⟨_, rfl, by omega, by omega, Or.inl ⟨by omega, hres⟩⟩⟩
                · intro hc33
                  change ¬ (x23 ≠ (0 : Int)) at hc33
                  exfalso; omega
              · skip
                refine pw_if E (pc' := 43) rfl (by decide) (by omega) (by omega) ?_ ?_
                · intro hc35
                  change x23 ≠ (0 : Int) at hc35
                  exfalso; omega
                · intro hc36
                  change ¬ (x23 ≠ (0 : Int)) at hc36
                  refine pw_ld E (pc' := 42) (st' := [pw_i ((-1))]) rfl (fun _ => rfl) ?_
                  refine pw_iret E rfl ?_
                  exact ⟨h1I, h1F, ⟨_, rfl, by omega, by omega, Or.inr ⟨by omega, rfl⟩⟩⟩
          · skip
            refine pw_if E (pc' := 41) rfl (by decide) (by omega) (by omega) ?_ ?_
            · intro hc38
              change x17 = (0 : Int) at hc38
              refine pw_ld E (pc' := 42) (st' := [pw_i ((-1))]) rfl (fun _ => rfl) ?_
              refine pw_iret E rfl ?_
              exact ⟨h1I, h1F, ⟨_, rfl, by omega, by omega, Or.inr ⟨by omega, rfl⟩⟩⟩
            · intro hc39
              change ¬ (x17 = (0 : Int)) at hc39
              exfalso; omega
      · skip
        refine pw_if E (pc' := 41) rfl (by decide) (by omega) (by omega) ?_ ?_
        · intro hc41
          change x10 = (0 : Int) at hc41
          refine pw_ld E (pc' := 42) (st' := [pw_i ((-1))]) rfl (fun _ => rfl) ?_
          refine pw_iret E rfl ?_
          exact ⟨h1I, h1F, ⟨_, rfl, by omega, by omega, Or.inr ⟨by omega, rfl⟩⟩⟩
        · intro hc42
          change ¬ (x10 = (0 : Int)) at hc42
          exfalso; omega
  · skip
    refine pw_if E (pc' := 41) rfl (by decide) (by omega) (by omega) ?_ ?_
    · intro hc44
      change x4 = (0 : Int) at hc44
      refine pw_ld E (pc' := 42) (st' := [pw_i ((-1))]) rfl (fun _ => rfl) ?_
      refine pw_iret E rfl ?_
      exact ⟨h1I, h1F, ⟨_, rfl, by omega, by omega, Or.inr ⟨by omega, rfl⟩⟩⟩
    · intro hc45
      change ¬ (x4 = (0 : Int)) at hc45
      exfalso; omega
end
section
/-! worlds: how far from what was told -/
def pu_f1 (cr wr : Nat → Int) (t : Int) (c : Nat) : Int := if cr c = -2 then 0 else if pu_hd (wr c) t - pu_hd (cr c) t < 0 then pu_hd (cr c) t - pu_hd (wr c) t else pu_hd (wr c) t - pu_hd (cr c) t
/-- a kitchen's months 1 to n -/
def pu_fk (cr wr : Nat → Int) (t : Int) (k : Nat) : Nat → Int
  | 0 => 0
  | n + 1 => pu_fk cr wr t k n + pu_f1 cr wr t (12 * k + (n + 1))
/-- the first n kitchens -/
def pu_fa (td cr wr : Nat → Int) (t : Int) : Nat → Int
  | 0 => 0
  | n + 1 => pu_fa td cr wr t n + (if td n = 0 then 0 else pu_fk cr wr t n 11)
/-- cell by cell -/
def pu_fc (td cr wr : Nat → Int) (t : Int) : Nat → Int
  | 0 => 0
  | n + 1 => pu_fc td cr wr t n + (if td (n / 12) = 0 ∨ n % 12 = 0 then 0 else pu_f1 cr wr t n)
theorem pu_fc.k {td cr wr : Nat → Int} {t : Int} {k : Nat} : ∀ m : Nat, m ≤ 11 → pu_fc td cr wr t (12 * k + (m + 1)) = pu_fc td cr wr t (12 * k) + (if td k = 0 then 0 else pu_fk cr wr t k m) := by
  intro m
  induction m with
  | zero =>
    intro _
    show pu_fc td cr wr t (12 * k) + (if td (12 * k / 12) = 0 ∨ 12 * k % 12 = 0 then 0 else pu_f1 cr wr t (12 * k)) = _
    rw [if_pos (Or.inr (by omega))]
    by_cases q : td k = 0
    · rw [if_pos q]
    · rw [if_neg q]; rfl
  | succ m ih =>
    intro hm
    show pu_fc td cr wr t (12 * k + (m + 1)) + (if td ((12 * k + (m + 1)) / 12) = 0 ∨ (12 * k + (m + 1)) % 12 = 0 then 0 else pu_f1 cr wr t (12 * k + (m + 1))) = _
    rw [ih (by omega), show (12 * k + (m + 1)) / 12 = k by omega]
    by_cases q : td k = 0
    · rw [if_pos q, if_pos q, if_pos (Or.inl q)]
      omega
    · rw [if_neg q, if_neg q, if_neg (fun z => z.elim q (fun y => by omega)), Int.add_assoc]
      rfl
theorem pu_fc.a {td cr wr : Nat → Int} {t : Int} : ∀ k : Nat, pu_fc td cr wr t (12 * k) = pu_fa td cr wr t k := by
  intro k
  induction k with
  | zero => rfl
  | succ k ih =>
    have e := pu_fc.k (td := td) (cr := cr) (wr := wr) (t := t) (k := k) 11 (Nat.le_refl _)
    rw [show 12 * (k + 1) = 12 * k + (11 + 1) by omega, e, ih]
    rfl
/-- what the first n seeds give -/
def pu_fs (td bk wg fl tr : Nat → Int) (th : Int → Int) (C : Int → List Int) (cr r : Nat → Int) (t : Int) : Nat → Int
  | 0 => 0
  | n + 1 => pu_fs td bk wg fl tr th C cr r t n + pu_fa td cr (pu_S td bk wg fl tr th C (n : Int) r 12).2 t 24
/-- the same sums for what is alike where it counts -/
theorem pu_fk.cg {cr cr' wr wr' : Nat → Int} {t : Int} {k : Nat} : ∀ n : Nat, (∀ m : Nat, 1 ≤ m → m ≤ n → pu_f1 cr wr t (12 * k + m) = pu_f1 cr' wr' t (12 * k + m)) → pu_fk cr wr t k n = pu_fk cr' wr' t k n := by
  intro n
  induction n with
  | zero => intro _; rfl
  | succ n ih =>
    intro H
    show pu_fk cr wr t k n + pu_f1 cr wr t (12 * k + (n + 1)) = _
    rw [ih (fun m a b => H m a (by omega)), H (n + 1) (by omega) (Nat.le_refl _)]
    rfl
theorem pu_fa.cg {td cr cr' wr wr' : Nat → Int} {t : Int} : ∀ n : Nat, (∀ k m : Nat, k < n → td k ≠ 0 → 1 ≤ m → m ≤ 11 → pu_f1 cr wr t (12 * k + m) = pu_f1 cr' wr' t (12 * k + m)) → pu_fa td cr wr t n = pu_fa td cr' wr' t n := by
  intro n
  induction n with
  | zero => intro _; rfl
  | succ n ih =>
    intro H
    show pu_fa td cr wr t n + (if td n = 0 then 0 else pu_fk cr wr t n 11) = pu_fa td cr' wr' t n + (if td n = 0 then 0 else pu_fk cr' wr' t n 11)
    rw [ih (fun k m a => H k m (by omega))]
    by_cases q : td n = 0
    · rw [if_pos q, if_pos q]
    · rw [if_neg q, if_neg q, pu_fk.cg 11 (fun m a b => H n m (Nat.lt_succ_self n) q a b)]
end
section
/-! worlds: sums over seeds; which fits best -/
theorem pu_fa.S1 {td cr wr : Nat → Int} {t : Int} {n : Nat} (h : td n ≠ 0) : pu_fa td cr wr t (n + 1) = pu_fa td cr wr t n + pu_fk cr wr t n 11 := by
  show pu_fa td cr wr t n + (if td n = 0 then 0 else pu_fk cr wr t n 11) = _
  rw [if_neg h]
theorem pu_fc.S1 {td cr wr : Nat → Int} {t : Int} {n : Nat} (h : ¬ (td (n / 12) = 0 ∨ n % 12 = 0)) : pu_fc td cr wr t (n + 1) = pu_fc td cr wr t n + pu_f1 cr wr t n := by
  show pu_fc td cr wr t n + (if td (n / 12) = 0 ∨ n % 12 = 0 then 0 else pu_f1 cr wr t n) = _
  rw [if_neg h]
theorem pu_fs.S {td bk wg fl tr : Nat → Int} {th : Int → Int} {C : Int → List Int} {cr r : Nat → Int} {t : Int} {n : Nat} : pu_fs td bk wg fl tr th C cr r t (n + 1) = pu_fs td bk wg fl tr th C cr r t n + pu_fa td cr (pu_S td bk wg fl tr th C (n : Int) r 12).2 t 24 := rfl
/-- the world says the same over another base -/
theorem px_mo.cg {h h1 hb : pm_H} {th : Int → Int} {C : Int → List Int} {sd m : Int} (e2 : ∀ j : Nat, pw_g h1 2 j = pw_g h 2 j) (e4 : ∀ j : Nat, pw_g h1 4 j = pw_g h 4 j) (e5 : ∀ j : Nat, pw_g h1 5 j = pw_g h 5 j) (e8 : ∀ j : Nat, pw_g h1 8 j = pw_g h 8 j) (e9 : ∀ j : Nat, pw_g h1 9 j = pw_g h 9 j) (e11 : ∀ j : Nat, pw_g h1 11 j = pw_g h 11 j) (H : px_mo h1 hb th C sd m) : px_mo h hb th C sd m := by
  unfold px_mo at H ⊢
  rw [funext e2, funext e4, funext e5, funext e8, funext e9, funext e11] at H
  exact H
/-- the laws stay while worlds run -/
theorem px_LW.fr {W : List Nat} {h h' : pm_H} {TH : Int → Int → Int} {CC : Int → Int → List Int} {NN : Int → Int → Int} (I : pw_I h) (E : pw_E W h h') (n : ∀ x : Nat, x ∈ W → x < 39 ∨ x = 44 ∨ x = 58 ∨ x = 72 ∨ x = 86 ∨ (94 < x ∧ x < 170)) (H : px_LW h TH CC NN) : px_LW h' TH CC NN := by
  intro l l0 l3
  obtain ⟨a, b⟩ := H l l0 l3
  have hc : pw_Sc (39 + 14 * l).toNat := by unfold pw_Sc; omega
  exact ⟨px_SC.fr I hc E (fun x hx hm => by have := n x hm; omega) a, b⟩
theorem pt_LW4.fr {W : List Nat} {h h' : pm_H} {TH : Int → Int → Int} {CC : Int → Int → List Int} (I : pw_I h) (E : pw_E W h h') (n5 : W.contains 145 = false) (n6 : W.contains 146 = false) (n7 : W.contains 147 = false) (H : pt_LW4 h TH CC) : pt_LW4 h' TH CC := fun l l0 l3 => ⟨(H l l0 l3).1.fr I E n5 n6 n7, (H l l0 l3).2⟩
/-- a cell of the calls, and the model's three -/
def pu_Lr (v s w g : Int) : Prop := ((s = 0 ∧ v = -2 ∧ w = 0 ∧ g = 0) ∨ (s = 2 ∧ v = -1 ∧ w = 0 ∧ g = 0) ∨ (s = 1 ∧ v = w * 100 + g)) ∧ 0 ≤ w ∧ w ≤ 99 ∧ 0 ≤ g ∧ g ≤ 99
def pu_Lw (h : pm_H) (cr : Nat → Int) : Prop := ∀ c : Nat, c < 288 → pu_Lr (cr c) (pw_g h 138 c) (pw_g h 139 c) (pw_g h 140 c)
theorem pu_Lw.E {W : List Nat} {h h' : pm_H} {cr : Nat → Int} (I : pw_I h) (E : pw_E W h h') (n8 : W.contains 138 = false) (n9 : W.contains 139 = false) (n0 : W.contains 140 = false) (H : pu_Lw h cr) : pu_Lw h' cr := fun c hc => by
  rw [pw_Eg (c := 138) I E rfl n8, pw_Eg (c := 139) I E rfl n9, pw_Eg (c := 140) I E rfl n0]
  exact H c hc
theorem pu_Wi.E {W : List Nat} {h h' : pm_H} {r : Nat → Int} (I : pw_I h) (E : pw_E W h h') (n8 : W.contains 138 = false) (n9 : W.contains 139 = false) (n0 : W.contains 140 = false) (H : pu_Wi h r) : pu_Wi h' r := fun c hc => by
  rw [pw_Eg (c := 138) I E rfl n8, pw_Eg (c := 139) I E rfl n9, pw_Eg (c := 140) I E rfl n0]
  exact H c hc
end
section
/-! worlds: the same over the same kitchens -/
def pu_Eq (td bk wg fl tr td' bk' wg' fl' tr' : Nat → Int) : Prop := (∀ k : Nat, k < 24 → td k = td' k ∧ bk k = bk' k ∧ wg k = wg' k ∧ 0 ≤ bk' k ∧ bk' k ≤ 1) ∧ ∀ c : Nat, c < 24 → fl c = fl' c ∧ tr c = tr' c
section Pq
variable {td bk wg fl tr td' bk' wg' fl' tr' : Nat → Int} {th : Int → Int} {C : Int → List Int} {sd : Int} {r cr : Nat → Int} {t : Int}
theorem pu_k.cg (H : pu_Eq td bk wg fl tr td' bk' wg' fl' tr') {m k : Nat} (hm : m < 12) (hk : k < 24) (s : Int × (Nat → Int)) : pu_k td bk wg fl tr th C m k s = pu_k td' bk' wg' fl' tr' th C m k s := by
  obtain ⟨a1, a2, a3, a4, a5⟩ := H.1 k hk
  obtain ⟨b1, b2⟩ := H.2 (12 * bk' k + m).toNat (by omega)
  unfold pu_k pu_F
  rw [a1, a2, a3, b1, b2]
theorem pu_ks.cg (H : pu_Eq td bk wg fl tr td' bk' wg' fl' tr') {m : Nat} (hm : m < 12) : ∀ (n : Nat) (s : Int × (Nat → Int)), n ≤ 24 → pu_ks td bk wg fl tr th C m n s = pu_ks td' bk' wg' fl' tr' th C m n s := by
  intro n
  induction n with
  | zero => intro s _; rfl
  | succ n ih =>
    intro s hn
    show pu_k td bk wg fl tr th C m n (pu_ks td bk wg fl tr th C m n s) = pu_k td' bk' wg' fl' tr' th C m n (pu_ks td' bk' wg' fl' tr' th C m n s)
    rw [ih s (by omega), pu_k.cg H hm (by omega)]
theorem pu_ms.cg (H : pu_Eq td bk wg fl tr td' bk' wg' fl' tr') : ∀ (n : Nat) (s : Int × (Nat → Int)), n < 12 → pu_ms td bk wg fl tr th C n s = pu_ms td' bk' wg' fl' tr' th C n s := by
  intro n
  induction n with
  | zero => intro s _; rfl
  | succ n ih =>
    intro s hn
    show pu_ks td bk wg fl tr th C (n + 1) 24 (pu_ms td bk wg fl tr th C n s) = pu_ks td' bk' wg' fl' tr' th C (n + 1) 24 (pu_ms td' bk' wg' fl' tr' th C n s)
    rw [ih s (by omega), pu_ks.cg H hn 24 _ (Nat.le_refl _)]
theorem pu_S.cg (H : pu_Eq td bk wg fl tr td' bk' wg' fl' tr') {m : Int} (hm : m ≤ 12) : pu_S td bk wg fl tr th C sd r m = pu_S td' bk' wg' fl' tr' th C sd r m := pu_ms.cg H _ _ (by omega)
theorem pu_fa.cgt {wr : Nat → Int} : ∀ n : Nat, (∀ k : Nat, k < n → td k = td' k) → pu_fa td cr wr t n = pu_fa td' cr wr t n := by
  intro n
  induction n with
  | zero => intro _; rfl
  | succ n ih =>
    intro H
    show pu_fa td cr wr t n + (if td n = 0 then 0 else pu_fk cr wr t n 11) = pu_fa td' cr wr t n + (if td' n = 0 then 0 else pu_fk cr wr t n 11)
    rw [ih (fun k hk => H k (by omega)), H n (Nat.lt_succ_self n)]
theorem pu_fs.eq (H : pu_Eq td bk wg fl tr td' bk' wg' fl' tr') : ∀ n : Nat, pu_fs td bk wg fl tr th C cr r t n = pu_fs td' bk' wg' fl' tr' th C cr r t n := by
  intro n
  induction n with
  | zero => rfl
  | succ n ih =>
    rw [pu_fs.S, pu_fs.S, ih, pu_S.cg H (Int.le_refl _), pu_fa.cgt 24 (fun k hk => (H.1 k hk).1)]
end Pq
end
section
/-! a new row of ints: Arrays.copyOf, Script.copyOf -/
/-- as pw_E, but one cell of at most 1000 may be new -/
def pw_G (W : List Nat) (h h' : pm_H) : Prop := (h.length ≤ h'.length ∧ h'.length ≤ h.length + 1 ∧ pm_slt h ≤ pm_slt h' ∧ pm_slt h' ≤ pm_slt h + 1000) ∧ ∀ c : Nat, c < h.length → c ∉ W → h'[c]? = h[c]?
theorem pw_E.G {W : List Nat} {a b : pm_H} (h1 : pw_E W a b) : pw_G W a b := ⟨⟨by rw [h1.1.1]; exact Nat.le_refl _, by rw [h1.1.1]; omega, by rw [h1.1.2]; exact Nat.le_refl _, by rw [h1.1.2]; omega⟩, h1.2.1⟩
theorem pw_G.tE {W : List Nat} {a b c : pm_H} (h1 : pw_G W a b) (h2 : pw_E W b c) : pw_G W a c := ⟨by rw [h2.1.1, h2.1.2]; exact h1.1, fun q hq hn => (h2.2.1 q (Nat.lt_of_lt_of_le hq h1.1.1) hn).trans (h1.2 q hq hn)⟩
theorem pw_E.tG {W : List Nat} {a b c : pm_H} (h1 : pw_E W a b) (h2 : pw_G W b c) : pw_G W a c := ⟨by rw [← h1.1.1, ← h1.1.2]; exact h2.1, fun q hq hn => (h2.2 q (by rw [h1.1.1]; exact hq) hn).trans (h1.2.1 q hq hn)⟩
theorem pw_G.wk {W W' : List Nat} {a b : pm_H} (h1 : pw_G W a b) (hs : W.all (fun c => W'.contains c) = true) : pw_G W' a b := ⟨h1.1, fun q hq hn => h1.2 q hq fun hm => hn (by
  have := List.all_eq_true.mp hs q hm
  exact List.contains_iff_mem.mp this)⟩
theorem pw_Gg {h h' : pm_H} {c : Nat} {W : List Nat} {s : pw_S} (I : pw_I h) (E : pw_G W h h') (hs : pw_T[c]? = some s) (hn : W.contains c = false) (k : Nat) : pw_at h' c k = pw_at h c k := by
  obtain ⟨q, h1, -⟩ := I.1 c _ hs
  unfold pw_at
  rw [E.2 c (List.getElem?_eq_some_iff.mp h1).1 (fun hm => by
    have := List.contains_iff_mem.mpr hm
    rw [hn] at this; cases this)]
theorem pw_vk_push {h : pm_H} {x : pm_C} {sp : pw_F} {v : Value} (hv : pw_vk h sp v) : pw_vk (h ++ [x]) sp v := by
  obtain ⟨k, lo, hi⟩ := sp
  have key : (∃ (c : Nat) (l : List Value), v = .ref (16 + c) ∧ h[c]? = some (.inl (0, l)) ∧ l.length ≤ 1000 ∧ pw_ints l) → ∃ (c2 : Nat) (l : List Value), v = .ref (16 + c2) ∧ (h ++ [x])[c2]? = some (.inl (0, l)) ∧ l.length ≤ 1000 ∧ pw_ints l := by
    rintro ⟨c2, l, e1, e2, e3⟩
    exact ⟨c2, l, e1, by rw [List.getElem?_append_left (List.getElem?_eq_some_iff.mp e2).1]; exact e2, e3⟩
  match k, hv with
  | 0, hv => exact hv
  | 1, hv => exact hv
  | 2, hv => exact hv
  | 4, hv => exact hv
  | 3, hv => exact key hv
  | k + 5, hv => exact key hv
theorem pw_ok_push {h : pm_H} {y : pm_C} {s : pw_S} {x : pm_C} (hv : pw_ok h s x) : pw_ok (h ++ [y]) s x := by
  match s, x, hv with
  | .inl _, .inl _, hv => exact hv
  | .inr (ci, sps), .inr (cj, fs), hv => exact ⟨hv.1, hv.2.1, fun k sp v g1 g2 => pw_vk_push (hv.2.2 k sp v g1 g2)⟩
theorem pw_scv_mono {n m : Nat} (hn : n ≤ m) {v : Value} (h : pm_scv n v = true) : pm_scv m v = true := by
  cases v with
  | ref a => exact Nat.blt_eq.mpr (Nat.lt_of_lt_of_le (Nat.blt_eq.mp h) hn)
  | _ => rfl
theorem pw_scc_mono {n m : Nat} (hn : n ≤ m) {c : pm_C} (h : pm_scc n c = true) : pm_scc m c = true := by
  match c, h with
  | .inl q, h =>
    have h : cond (Nat.blt q.1 5) true (pm_all (pm_scv n) q.2) = true := h
    show cond (Nat.blt q.1 5) true (pm_all (pm_scv m) q.2) = true
    cases hb : Nat.blt q.1 5 with
    | true => rfl
    | false =>
      rw [hb] at h
      have h : pm_all (pm_scv n) q.2 = true := h
      show pm_all (pm_scv m) q.2 = true
      rw [pm_all_eq, List.all_eq_true] at h ⊢
      exact fun v hv => pw_scv_mono hn (h v hv)
  | .inr q, h =>
    have h : pm_all (pm_scv n) q.2 = true := h
    show pm_all (pm_scv m) q.2 = true
    rw [pm_all_eq, List.all_eq_true] at h ⊢
    exact fun v hv => pw_scv_mono hn (h v hv)
theorem pw_I_push {h : pm_H} {t : Nat} {l : List Value} (ht : Nat.blt t 5 = true) (I : pw_I h) : pw_I (h ++ [.inl (t, l)]) := by
  refine ⟨fun c s hT => ?_, ?_⟩
  · obtain ⟨q, h1, h2⟩ := I.1 c s hT
    exact ⟨q, by rw [List.getElem?_append_left (List.getElem?_eq_some_iff.mp h1).1]; exact h1, pw_ok_push h2⟩
  · have h1 := I.2
    unfold pm_scH at h1 ⊢
    rw [pm_all_eq, List.all_eq_true, pm_len_eq] at h1 ⊢
    intro c hc
    rw [List.length_append]
    rcases List.mem_append.mp hc with g | g
    · exact pw_scc_mono (by simp) (h1 c g)
    · rw [List.mem_singleton.mp g]
      show cond (Nat.blt t 5) true _ = true
      rw [ht]; rfl
section Pn
variable {X : List (Nat × List Value)} {d : Nat} {h : pm_H} {m pc pc' len na nl own rt : Nat} {C : pm_T (Instr × Nat)} {ls : pm_L} {r : List Value} {Q : pm_H → (Option Value ⊕ Unit) → Prop} {i : Instr}
theorem pw_newi {n : Int} (he : pm_ent m = some (na, nl, own, rt, C)) (hq : pm_get C pc = some (.newarray .int, len)) (hc : pc + len = pc') (h0 : 0 ≤ n) (h1 : n ≤ 60000) (H : pw X d (h ++ [.inl (0, List.replicate n.toNat (.int 0))]) m pc' ls (.ref (16 + h.length) :: r) Q) : pw X d h m pc ls (pw_i n :: r) Q := by
  subst hc
  refine pw_go he hq (fun ih => ?_) H
  show cond (decide (Int32.ofInt n < 0)) none (cond (Nat.ble (Int32.ofInt n).toNatClampNeg 60000) (cond (Nat.blt 0 5) (pm_fn (pm_len h) fun z => pm_fn (pc + len) fun q => ih d (h ++ [.inl (0, pm_rep (Int32.ofInt n).toNatClampNeg (.int 0))]) m q ls (.ref (16 + z) :: r)) none) none) = _
  rw [decide_eq_false (pw_neg h0 (by omega)), cond_false, pw_clamp h0 (by omega), Nat.ble_eq_true_of_le (by omega), cond_true, pm_fn_eq, pm_fn_eq, pm_len_eq, pm_rep_eq]
  rfl
theorem pw_cpyN {ix c q a a2 : Nat} {l l' : List Value} {n : Int} (he : pm_ent m = some (na, nl, own, rt, C)) (hq : pm_get C pc = some (.invokestatic ix, len)) (hl : pm_get (pm_lnk own) ix = some (12, 5, 0, 0)) (e1 : h[c]? = some (.inl (0, l))) (f1 : h[q]? = some (.inl (0, l'))) (h0 : 0 ≤ n) (h1 : n ≤ 60000) (hn : n.toNat ≤ l.length) (hn2 : n.toNat = l'.length) (ha : 16 + c = a) (ha2 : 16 + q = a2) (h8 : pm_cat8 r = true)
    (H : pw X d (h.set q (.inl (0, l.take n.toNat))) m (pc + 3) ls r Q) : pw X d h m pc ls (pw_i n :: pw_i 0 :: .ref a2 :: pw_i 0 :: .ref a :: r) Q := by
  refine pw_go he hq (fun ih => ?_) H
  refine (pw_prim0 (len := len) hl rfl).trans ?_
  show (match pm_row X h a, pm_cell h a2 with
    | some (t, l), some (.inl (t', l')) => cond (Nat.beq t 0 && (Nat.beq t' 0 && (Nat.ble 16 a && (!decide (Int32.ofInt n < 0) && (!decide (Int32.ofInt 0 < 0) && (!decide (Int32.ofInt 0 < 0) && (Nat.ble ((Int32.ofInt 0).toNatClampNeg + (Int32.ofInt n).toNatClampNeg) (pm_len l) && Nat.ble ((Int32.ofInt 0).toNatClampNeg + (Int32.ofInt n).toNatClampNeg) (pm_len l'))))))))
      (cond (pm_cat8 r) (pm_fn (pc + 3) fun q => ih d (pm_set h (a2 - 16) (.inl (0, pm_cpy l l' (Int32.ofInt 0).toNatClampNeg (Int32.ofInt 0).toNatClampNeg (Int32.ofInt n).toNatClampNeg))) m q ls r) none) none
    | _, _ => none) = _
  rw [pw_rowI e1 ha, pw_cellI f1 ha2]
  dsimp only
  have en : (Int32.ofInt n).toNatClampNeg = n.toNat := pw_clamp h0 (by omega)
  have e0 : (Int32.ofInt 0).toNatClampNeg = 0 := rfl
  rw [en, e0, decide_eq_false (pw_neg h0 (by omega)), pm_len_eq, pm_len_eq]
  have hb : (Nat.beq 0 0 && (Nat.beq 0 0 && (Nat.ble 16 a && (!false && (!decide (Int32.ofInt 0 < 0) && (!decide (Int32.ofInt 0 < 0) && (Nat.ble (0 + n.toNat) l.length && Nat.ble (0 + n.toNat) l'.length))))))) = true := by
    rw [Nat.ble_eq_true_of_le (show 16 ≤ a by omega), Nat.ble_eq_true_of_le (show 0 + n.toNat ≤ l.length by omega), Nat.ble_eq_true_of_le (show 0 + n.toNat ≤ l'.length by omega)]
    rfl
  have ea : a2 - 16 = q := by omega
  rw [hb, cond_true, h8, cond_true, pm_fn_eq, ea, pm_set_eq]
  have ec : pm_cpy l l' 0 0 n.toNat = l.take n.toNat := by
    unfold pm_cpy
    rw [List.take_zero, List.drop_zero, List.nil_append, List.drop_of_length_le (by omega), List.append_nil]
  rw [ec]
end Pn
theorem cm_325 {X : List (Nat × List Value)} {d : Nat} {h : pm_H} {c : Nat} {l : List Value} {n : Int} (e1 : h[c]? = some (.inl (0, l))) (hl : l.length = 1000) (h0 : 0 ≤ n) (h1 : n ≤ 999) : pw X d h 325 0 [some (.ref (16 + c)), some (pw_i n), none] [] (fun h' v => h' = h ++ [.inl (0, l.take n.toNat)] ∧ v = .inl (some (.ref (16 + h.length)))) := by
  have E : pm_ent 325 = some (2, 3, 14, 3, pmc_325) := rfl
  have hc : c < h.length := (List.getElem?_eq_some_iff.mp e1).1
  refine pw_ld E (pc' := 1) (st' := [pw_i n]) rfl (fun _ => rfl) ?_
  refine pw_ld E (pc' := 2) (st' := [.ref (16 + c), pw_i n]) rfl (fun _ => rfl) ?_
  refine pw_alen E (pc' := 3) rfl (pw_rowI e1 rfl) rfl rfl ?_
  rw [hl]
  refine pw_if2 E (pc' := 14) rfl (by decide) (by omega) (by omega) (by decide) (by decide) ?_ ?_
  · intro _
    refine pw_ld E (pc' := 15) (st' := [pw_i n]) rfl (fun _ => rfl) ?_
    refine pw_newi E (pc' := 17) rfl rfl h0 (by omega) ?_
    have e2 : (h ++ [.inl (0, List.replicate n.toNat (.int 0))])[c]? = some (.inl (0, l)) := by rw [List.getElem?_append_left hc]; exact e1
    have e3 : (h ++ [.inl (0, List.replicate n.toNat (.int 0))])[h.length]? = some (.inl (0, List.replicate n.toNat (.int 0))) := by rw [List.getElem?_append_right (Nat.le_refl _), Nat.sub_self]; rfl
    generalize hg : h ++ [.inl (0, List.replicate n.toNat (Value.int 0))] = g at e2 e3 ⊢
    refine pw_astn E (pc' := 18) (ls' := [some (.ref (16 + c)), some (pw_i n), some (.ref (16 + h.length))]) rfl rfl rfl rfl ?_
    refine pw_ld E (pc' := 19) (st' := [.ref (16 + c)]) rfl (fun _ => rfl) ?_
    refine pw_ld E (pc' := 20) (st' := [pw_i 0, .ref (16 + c)]) rfl (fun _ => rfl) ?_
    refine pw_ld E (pc' := 21) (st' := [.ref (16 + h.length), pw_i 0, .ref (16 + c)]) rfl (fun _ => rfl) ?_
    refine pw_ld E (pc' := 22) (st' := [pw_i 0, .ref (16 + h.length), pw_i 0, .ref (16 + c)]) rfl (fun _ => rfl) ?_
    refine pw_ld E (pc' := 23) (st' := [.ref (16 + c), pw_i 0, .ref (16 + h.length), pw_i 0, .ref (16 + c)]) rfl (fun _ => rfl) ?_
    refine pw_alen E (pc' := 24) rfl (pw_rowI e2 rfl) rfl rfl ?_
    rw [hl]
    refine pw_ld E (pc' := 25) (st' := [pw_i n, pw_i (1000 : Nat), pw_i 0, .ref (16 + h.length), pw_i 0, .ref (16 + c)]) rfl (fun _ => rfl) ?_
    refine pw_min E rfl rfl (by decide) (by decide) (by omega) (by omega) rfl ?_
    rw [show min ((1000 : Nat) : Int) n = n by omega]
    refine pw_cpyN (q := h.length) E rfl rfl e2 e3 h0 (by omega) (by omega) List.length_replicate.symm rfl rfl rfl ?_
    refine pw_ld E (pc' := 32) (st' := [.ref (16 + h.length)]) rfl (fun _ => rfl) ?_
    refine pw_aret E rfl ⟨?_, rfl⟩
    rw [← hg, List.set_append_right _ _ (Nat.le_refl _), Nat.sub_self]
    rfl
  · intro hn
    exact absurd (show pw_c .ne n ((1000 : Nat) : Int) from (by show n ≠ ((1000 : Nat) : Int); omega)) hn
theorem pw_scq {h : pm_H} {q : Nat} {x : pm_C} (hq : h[q]? = some x) : pm_scv (16 + h.length) (.ref (16 + q)) = true := by
  have := (List.getElem?_eq_some_iff.mp hq).1
  exact Nat.blt_eq.mpr (by omega)
set_option maxHeartbeats 4000000 in
theorem cm_73t {X : List (Nat × List Value)} {d : Nat} {h : pm_H} (I : pw_I h) (c : Nat) (hc : pw_Sc c) (q0 : Nat) (q0l : List Value) (q0h : h[q0]? = some (.inl (0, q0l))) (q0n : q0l.length ≤ 1000) (q0i : pw_ints q0l) : pw X d h 73 12 [some (.ref (16 + c)), some (.ref 46), none] [.ref (16 + q0), .ref (16 + c)] (fun h' v => pw_I h' ∧ pw_E [c, c + 1, c + 2, c + 3, c + 4] h h' ∧ v = .inl none) := by
  have E : pm_ent 73 = some (2, 3, 7, 4, pmc_73) := rfl
  have E0 : pw_E [c, c + 1, c + 2, c + 3, c + 4] h h := pw_E.rf _ _
  refine pw_put0 I E (c := c) (k := 0) (pc' := 15) rfl rfl (pw_Sc_o hc) rfl ⟨q0, q0l, rfl, q0h, q0n, q0i⟩ (pw_scq q0h) rfl rfl rfl ?_
  intro h1I h1E
  generalize h1w : pw_w h c 0 (.ref (16 + q0)) = h1 at h1I h1E ⊢
  have h1F := E0.tr (h1E.wk (W' := [c, c + 1, c + 2, c + 3, c + 4]) (by first | rfl | simp))
  refine pw_ld E (pc' := 16) (st' := [.ref (16 + c)]) rfl (fun _ => rfl) ?_
  refine pw_ld E (pc' := 17) (st' := [.ref 46, .ref (16 + c)]) rfl (fun _ => rfl) ?_
  refine pw_getI h1I E (c := 30) (k := 1) (pc' := 20) rfl rfl rfl rfl rfl rfl (fun hf2a hf2b hf2c hf2d => ?_)
  refine pw_putI h1I E (c := c) (k := 1) (pc' := 23) rfl rfl (pw_Sc_o hc) rfl (by omega) (by omega) (by omega) (by omega) rfl rfl ?_
  intro h3I h3E
  generalize h3w : pw_w h1 c 1 (pw_i (pw_g h1 30 1)) = h3 at h3I h3E ⊢
  have h3F := h1F.tr (h3E.wk (W' := [c, c + 1, c + 2, c + 3, c + 4]) (by first | rfl | simp))
  refine pw_ld E (pc' := 24) (st' := [pw_i 0]) rfl (fun _ => rfl) ?_
  refine pw_istn E (pc' := 25) (ls' := [some (.ref (16 + c)), some (.ref 46), some (pw_i 0)]) rfl rfl rfl rfl ?_
  have L25 : ∀ (n25 : Nat) (k25_2 : Int) (h25 : pm_H), pw_I h25 → pw_E [c, c + 1, c + 2, c + 3, c + 4] h h25 → 0 ≤ k25_2 → k25_2 ≤ 4 → (4 - k25_2).toNat = n25 → pw X d h25 73 25 [some (.ref (16 + c)), some (.ref 46), some (pw_i k25_2)] [] (fun h' v => pw_I h' ∧ pw_E [c, c + 1, c + 2, c + 3, c + 4] h h' ∧ v = .inl none) := by
    intro n25
    induction n25 using Nat.strongRecOn with
    | ind n25 ih25 =>
      intro k25_2 h25 I25 E25 k25_2a k25_2b hm25
      refine pw_ld E (pc' := 26) (st' := [pw_i k25_2]) rfl (fun _ => rfl) ?_
      refine pw_ld E (pc' := 27) (st' := [pw_i 4, pw_i k25_2]) rfl (fun _ => rfl) ?_
      refine pw_if2 E (pc' := 84) rfl (by decide) (by omega) (by omega) (by decide) (by decide) ?_ ?_
      · intro hc4
        have hc4 : (4 : Int) ≤ k25_2 := hc4
        refine pw_vret E rfl ?_
        exact ⟨I25, E25, rfl⟩
      · intro hc5
        have hc5 : ¬ ((4 : Int) ≤ k25_2) := hc5
        refine pw_ld E (pc' := 31) (st' := [.ref (16 + c)]) rfl (fun _ => rfl) ?_
        refine pw_getR (b := 16 + (c + 1)) I25 E (c := c) (k := 2) (pc' := 34) rfl rfl (pw_Sc_o hc) rfl rfl rfl rfl ?_
        refine pw_ld E (pc' := 35) (st' := [pw_i k25_2, .ref (16 + (c + 1))]) rfl (fun _ => rfl) ?_
        refine pw_ld E (pc' := 36) (st' := [.ref 46, pw_i k25_2, .ref (16 + (c + 1))]) rfl (fun _ => rfl) ?_
        refine pw_getR (b := 47) I25 E (c := 30) (k := 2) (pc' := 39) rfl rfl rfl rfl rfl rfl rfl ?_
        refine pw_ld E (pc' := 40) (st' := [pw_i k25_2, .ref 47, pw_i k25_2, .ref (16 + (c + 1))]) rfl (fun _ => rfl) ?_
        refine pw_ald I25 E (c := 31) (pc' := 41) rfl rfl rfl (by decide) rfl (by decide) (by omega) (by omega) rfl (fun hf6a hf6b hf6c hf6d => ?_)
        refine pw_ast0 I25 E (c := c + 1) (pc' := 42) rfl rfl (pw_Sc_1 hc) (by decide) rfl (by decide) (by omega) (by omega) (pw_b1 (by omega) (by omega)) (by omega) (by omega) (by omega) (by omega) rfl ?_
        intro h7I h7E
        generalize h7w : pw_w h25 (c + 1) (k25_2.toNat) (pw_i (pw_g h25 31 (k25_2.toNat))) = h7 at h7I h7E ⊢
        have h7F := E25.tr (h7E.wk (W' := [c, c + 1, c + 2, c + 3, c + 4]) (by first | rfl | simp))
        refine pw_ld E (pc' := 43) (st' := [.ref (16 + c)]) rfl (fun _ => rfl) ?_
        refine pw_getR (b := 16 + (c + 2)) h7I E (c := c) (k := 3) (pc' := 46) rfl rfl (pw_Sc_o hc) rfl rfl rfl rfl ?_
        refine pw_ld E (pc' := 47) (st' := [pw_i k25_2, .ref (16 + (c + 2))]) rfl (fun _ => rfl) ?_
        refine pw_ld E (pc' := 48) (st' := [.ref 46, pw_i k25_2, .ref (16 + (c + 2))]) rfl (fun _ => rfl) ?_
        refine pw_getR (b := 48) h7I E (c := 30) (k := 3) (pc' := 51) rfl rfl rfl rfl rfl rfl rfl ?_
        refine pw_ld E (pc' := 52) (st' := [pw_i k25_2, .ref 48, pw_i k25_2, .ref (16 + (c + 2))]) rfl (fun _ => rfl) ?_
        refine pw_ald h7I E (c := 32) (pc' := 53) rfl rfl rfl (by decide) rfl (by decide) (by omega) (by omega) rfl (fun hf8a hf8b hf8c hf8d => ?_)
        refine pw_ast0 h7I E (c := c + 2) (pc' := 54) rfl rfl (pw_Sc_2 hc) (by decide) rfl (by decide) (by omega) (by omega) rfl (by omega) (by omega) (by omega) (by omega) rfl ?_
        intro h9I h9E
        generalize h9w : pw_w h7 (c + 2) (k25_2.toNat) (pw_i (pw_g h7 32 (k25_2.toNat))) = h9 at h9I h9E ⊢
        have h9F := h7F.tr (h9E.wk (W' := [c, c + 1, c + 2, c + 3, c + 4]) (by first | rfl | simp))
        refine pw_ld E (pc' := 55) (st' := [.ref (16 + c)]) rfl (fun _ => rfl) ?_
        refine pw_getR (b := 16 + (c + 3)) h9I E (c := c) (k := 4) (pc' := 58) rfl rfl (pw_Sc_o hc) rfl rfl rfl rfl ?_
        refine pw_ld E (pc' := 59) (st' := [pw_i k25_2, .ref (16 + (c + 3))]) rfl (fun _ => rfl) ?_
        refine pw_ld E (pc' := 60) (st' := [.ref 46, pw_i k25_2, .ref (16 + (c + 3))]) rfl (fun _ => rfl) ?_
        refine pw_getR (b := 49) h9I E (c := 30) (k := 4) (pc' := 63) rfl rfl rfl rfl rfl rfl rfl ?_
        refine pw_ld E (pc' := 64) (st' := [pw_i k25_2, .ref 49, pw_i k25_2, .ref (16 + (c + 3))]) rfl (fun _ => rfl) ?_
        refine pw_ald h9I E (c := 33) (pc' := 65) rfl rfl rfl (by decide) rfl (by decide) (by omega) (by omega) rfl (fun hf10a hf10b hf10c hf10d => ?_)
        refine pw_ast0 h9I E (c := c + 3) (pc' := 66) rfl rfl (pw_Sc_3 hc) (by decide) rfl (by decide) (by omega) (by omega) rfl (by omega) (by omega) (by omega) (by omega) rfl ?_
        intro h11I h11E
        generalize h11w : pw_w h9 (c + 3) (k25_2.toNat) (pw_i (pw_g h9 33 (k25_2.toNat))) = h11 at h11I h11E ⊢
        have h11F := h9F.tr (h11E.wk (W' := [c, c + 1, c + 2, c + 3, c + 4]) (by first | rfl | simp))
        refine pw_ld E (pc' := 67) (st' := [.ref (16 + c)]) rfl (fun _ => rfl) ?_
        refine pw_getR (b := 16 + (c + 4)) h11I E (c := c) (k := 5) (pc' := 70) rfl rfl (pw_Sc_o hc) rfl rfl rfl rfl ?_
        refine pw_ld E (pc' := 71) (st' := [pw_i k25_2, .ref (16 + (c + 4))]) rfl (fun _ => rfl) ?_
        refine pw_ld E (pc' := 72) (st' := [.ref 46, pw_i k25_2, .ref (16 + (c + 4))]) rfl (fun _ => rfl) ?_
        refine pw_getR (b := 50) h11I E (c := 30) (k := 5) (pc' := 75) rfl rfl rfl rfl rfl rfl rfl ?_
        refine pw_ld E (pc' := 76) (st' := [pw_i k25_2, .ref 50, pw_i k25_2, .ref (16 + (c + 4))]) rfl (fun _ => rfl) ?_
        refine pw_ald h11I E (c := 34) (pc' := 77) rfl rfl rfl (by decide) rfl (by decide) (by omega) (by omega) rfl (fun hf12a hf12b hf12c hf12d => ?_)
        refine pw_ast0 h11I E (c := c + 4) (pc' := 78) rfl rfl (pw_Sc_4 hc) (by decide) rfl (by decide) (by omega) (by omega) rfl (by omega) (by omega) (by omega) (by omega) rfl ?_
        intro h13I h13E
        generalize h13w : pw_w h11 (c + 4) (k25_2.toNat) (pw_i (pw_g h11 34 (k25_2.toNat))) = h13 at h13I h13E ⊢
        have h13F := h11F.tr (h13E.wk (W' := [c, c + 1, c + 2, c + 3, c + 4]) (by first | rfl | simp))
        refine pw_inc E (pc' := 81) (ls' := [some (.ref (16 + c)), some (.ref 46), some (pw_i (k25_2 + 1))]) rfl rfl rfl rfl ?_
        refine pw_goto E (pc' := 25) rfl (by decide) ?_
        exact ih25 _ (by omega) (k25_2 + 1) h13 h13I h13F (by omega) (by omega)  rfl
  exact L25 _ (0) h3 h3I h3F (by omega) (by omega)  rfl
theorem pw_G_push {W : List Nat} {h : pm_H} {l : List Value} (hl : l.length ≤ 1000) : pw_G W h (h ++ [.inl (0, l)]) := by
  refine ⟨⟨by simp, by simp, by rw [pm_slt_push]; omega, by rw [pm_slt_push]; show pm_slt h + l.length ≤ _; omega⟩, fun c hc _ => List.getElem?_append_left hc⟩
theorem cm_73 {X : List (Nat × List Value)} {d : Nat} {h : pm_H} (hd : 2 ≤ d) (I : pw_I h) (c : Nat) (hc : pw_Sc c) (hlen : pw_g h 30 1 ≤ 999) : pw X d h 73 0 [some (.ref (16 + c)), some (.ref 46), none] [] (fun h' v => pw_I h' ∧ pw_G [c, c + 1, c + 2, c + 3, c + 4] h h' ∧ v = .inl none) := by
  have E : pm_ent 73 = some (2, 3, 7, 4, pmc_73) := rfl
  refine pw_ld E (pc' := 1) (st' := [.ref (16 + c)]) rfl (fun _ => rfl) ?_
  refine pw_ld E (pc' := 2) (st' := [.ref 46, .ref (16 + c)]) rfl (fun _ => rfl) ?_
  refine pw_getR (b := 52) I E (c := 30) (k := 0) (pc' := 5) rfl rfl rfl rfl rfl rfl rfl ?_
  refine pw_ld E (pc' := 6) (st' := [.ref 46, .ref 52, .ref (16 + c)]) rfl (fun _ => rfl) ?_
  refine pw_getI I E (c := 30) (k := 1) (pc' := 9) rfl rfl rfl rfl rfl rfl (fun ha hb _ _ => ?_)
  obtain ⟨l, e1, e2, e3⟩ := pw_arr (c := 36) I rfl
  refine pw_call (m' := 325) (As := [.ref 52, pw_i (pw_g h 30 1)]) (rest := [.ref (16 + c)]) (ls'' := [some (.ref (16 + 36)), some (pw_i (pw_g h 30 1)), none]) (by omega) E rfl (fun _ => pw_iS rfl rfl rfl) (rfl : pm_ent 325 = some (2, 3, 14, 3, pmc_325)) rfl rfl (cm_325 e1 e2 ha hlen) ?_
  rintro h1 v1 ⟨rfl, rfl⟩
  refine ⟨_, rfl, ?_⟩
  have ht : (l.take (pw_g h 30 1).toNat).length ≤ 1000 := by rw [List.length_take]; omega
  refine pw_mono (cm_73t (pw_I_push rfl I) c hc h.length (l.take (pw_g h 30 1).toNat) (by rw [List.getElem?_append_right (Nat.le_refl _), Nat.sub_self]; rfl) ht (fun j v hv => ?_)) ?_
  · rw [List.getElem?_take] at hv
    split at hv
    · obtain ⟨a, rfl, -⟩ := e3 j v hv
      exact ⟨_, rfl⟩
    · cases hv
  · rintro h2 v2 ⟨I2, E2, rfl⟩
    exact ⟨I2, (pw_G_push ht).tE E2, rfl⟩
/-- the cells that law and writer of the class may write -/
def pw_WL : List Nat := [24, 26, 27, 28, 29, 30, 31, 32, 33, 34, 36] ++ (List.range 56).map (fun j => 39 + j)
end
section
/-! law and writer of the class, exactly -/
set_option maxHeartbeats 4000000 in
theorem cm_143_26x {X : List (Nat × List Value)} {d : Nat} {h : pm_H} (hd : 7 ≤ d) (I : pw_I h) (hX : pw_Xk X) (hR : pw_Xr X) (hS : pw_Xs X) (hF : pw_Xf X) (L : List pt_tok) (hL : pt_sg (pw_g h 25) (pw_g h 24 1).toNat 0 L (pw_g h 24 1).toNat) (c : Nat) (hc : pw_Sc c) : pw X d h 143 0 [some (.ref 16), some (.ref 42), some (.ref (16 + c)), none] [] (fun h' v => pw_I h' ∧ pw_G [24, 26, 27, 30, 31, 32, 33, 34, 36, c, c + 1, c + 2, c + 3, c + 4] h h' ∧ pw_g h' 24 1 = 0 ∧ ∃ a : Int, v = .inl (some (pw_i a)) ∧ (-2147483648) ≤ a ∧ a ≤ 2147483647 ∧ a = (pt_TX 0 L (pw_g h 24 1).toNat).1) := by
  have E : pm_ent 143 = some (3, 4, 11, 0, pmc_143) := rfl
  refine pw_ld E (pc' := 1) (st' := [.ref 42]) rfl (fun _ => rfl) ?_
  refine pw_ld E (pc' := 2) (st' := [.ref 16, .ref 42]) rfl (fun _ => rfl) ?_
  refine pw_getR (b := 40) I E (c := 0) (k := 10) (pc' := 5) rfl rfl rfl rfl rfl rfl rfl ?_
  refine pw_ld E (pc' := 6) (st' := [.ref 16, .ref 40, .ref 42]) rfl (fun _ => rfl) ?_
  refine pw_getR (b := 46) I E (c := 0) (k := 13) (pc' := 9) rfl rfl rfl rfl rfl rfl rfl ?_
  obtain ⟨f1l, f1h, -⟩ := pw_obj (c := 26) I rfl
  refine pw_call (m' := 44) (As := [.ref 42, .ref 40, .ref 46]) (rest := []) (ls'' := [some (.ref 42), some (.ref 40), some (.ref 46), none, none]) (by omega) E rfl (fun _ => pw_iV rfl rfl rfl rfl (pw_cellI f1h rfl)) (rfl : pm_ent 44 = some (3, 5, 5, 0, pmc_44)) rfl rfl (cm_44_x26 (by omega) I hX L hR hS hF hL) ?_
  rintro h1 v1 ⟨I1, E1, a, rfl, ha, hb, hw⟩
  have hz : a ≠ 0 ∨ pw_g h1 30 1 ≤ 999 := hw.elim (fun q => Or.inl q.1) (fun ⟨_, _, _, _, _, _, q⟩ => Or.inr q)
  have hx : a = (pt_TX 0 L (pw_g h 24 1).toNat).1 := hw.elim (fun q => q.2.symm) (fun ⟨q0, _, _, _, q, _⟩ => by rw [q]; exact q0)
  refine ⟨_, rfl, ?_⟩
  show pw X d h1 143 12 [some (.ref 16), some (.ref 42), some (.ref (16 + c)), none] [pw_i a] _
  refine pw_istn E (pc' := 13) (ls' := [some (.ref 16), some (.ref 42), some (.ref (16 + c)), some (pw_i a)]) rfl rfl rfl rfl ?_
  refine pw_ld E (pc' := 14) (st' := [.ref 16]) rfl (fun _ => rfl) ?_
  refine pw_getR (b := 40) I1 E (c := 0) (k := 10) (pc' := 17) rfl rfl rfl rfl rfl rfl rfl ?_
  obtain ⟨f2l, f2h, -⟩ := pw_obj (c := 24) I1 rfl
  refine pw_call (m' := 99) (As := [.ref 40]) (rest := []) (ls'' := [some (.ref 40)]) (by omega) E rfl (fun _ => pw_iV rfl rfl rfl rfl (pw_cellI f2h rfl)) (rfl : pm_ent 99 = some (1, 1, 9, 4, pmc_99)) rfl rfl (cm_99_f (by omega) I1) ?_
  rintro h2 v2 ⟨I2, E2, q2, rfl⟩
  refine ⟨_, rfl, ?_⟩
  show pw X d h2 143 20 [some (.ref 16), some (.ref 42), some (.ref (16 + c)), some (pw_i a)] [] _
  have e30 : pw_g h2 30 1 = pw_g h1 30 1 := pw_Eg (c := 30) I1 E2 rfl rfl 1
  have EE : pw_E [24, 26, 27, 30, 31, 32, 33, 34, 36, c, c + 1, c + 2, c + 3, c + 4] h h2 := (E1.wk (W' := [24, 26, 27, 30, 31, 32, 33, 34, 36, c, c + 1, c + 2, c + 3, c + 4]) (by simp)).tr (E2.wk (W' := [24, 26, 27, 30, 31, 32, 33, 34, 36, c, c + 1, c + 2, c + 3, c + 4]) (by simp))
  refine pw_ld E (pc' := 21) (st' := [pw_i a]) rfl (fun _ => rfl) ?_
  refine pw_if E (pc' := 32) rfl (by decide) ha hb ?_ ?_
  · intro _
    refine pw_ld E (pc' := 33) (st' := [pw_i a]) rfl (fun _ => rfl) ?_
    refine pw_iret E rfl ?_
    exact ⟨I2, EE.G, q2, a, rfl, ha, hb, hx⟩
  · intro hn
    have hn : ¬ (a ≠ 0) := hn
    refine pw_ld E (pc' := 25) (st' := [.ref (16 + c)]) rfl (fun _ => rfl) ?_
    refine pw_ld E (pc' := 26) (st' := [.ref 16, .ref (16 + c)]) rfl (fun _ => rfl) ?_
    refine pw_getR (b := 46) I2 E (c := 0) (k := 13) (pc' := 29) rfl rfl rfl rfl rfl rfl rfl ?_
    obtain ⟨f3l, f3h, -⟩ := pw_obj (c := c) I2 (pw_Sc_o hc)
    refine pw_call (m' := 73) (As := [.ref (16 + c), .ref 46]) (rest := []) (ls'' := [some (.ref (16 + c)), some (.ref 46), none]) (by omega) E rfl (fun _ => pw_iV rfl rfl rfl rfl (pw_cellI f3h rfl)) (rfl : pm_ent 73 = some (2, 3, 7, 4, pmc_73)) rfl rfl (cm_73 (by omega) I2 c hc (by omega)) ?_
    rintro h3 v3 ⟨I3, G3, rfl⟩
    refine ⟨_, rfl, ?_⟩
    show pw X d h3 143 32 [some (.ref 16), some (.ref 42), some (.ref (16 + c)), some (pw_i a)] [] _
    refine pw_ld E (pc' := 33) (st' := [pw_i a]) rfl (fun _ => rfl) ?_
    refine pw_iret E rfl ?_
    exact ⟨I3, EE.tG (G3.wk (W' := [24, 26, 27, 30, 31, 32, 33, 34, 36, c, c + 1, c + 2, c + 3, c + 4]) (by simp)), (congrArg pw_iv (pw_Gg (c := 24) I2 G3 rfl (by rcases hc with rfl | rfl | rfl | rfl | rfl | rfl | rfl | rfl <;> decide) 1)).trans q2, a, rfl, ha, hb, hx⟩
set_option maxHeartbeats 4000000 in
theorem cm_143_28x {X : List (Nat × List Value)} {d : Nat} {h : pm_H} (hd : 7 ≤ d) (I : pw_I h) (hX : pw_Xk X) (hR : pw_Xr X) (hS : pw_Xs X) (hF : pw_Xf X) (L : List pt_tok) (hL : pt_sg (pw_g h 25) (pw_g h 24 1).toNat 0 L (pw_g h 24 1).toNat) (c : Nat) (hc : pw_Sc c) : pw X d h 143 0 [some (.ref 16), some (.ref 44), some (.ref (16 + c)), none] [] (fun h' v => pw_I h' ∧ pw_G [24, 28, 29, 30, 31, 32, 33, 34, 36, c, c + 1, c + 2, c + 3, c + 4] h h' ∧ pw_g h' 24 1 = 0 ∧ ∃ a : Int, v = .inl (some (pw_i a)) ∧ (-2147483648) ≤ a ∧ a ≤ 2147483647 ∧ a = (pt_TX 1 L (pw_g h 24 1).toNat).1) := by
  have E : pm_ent 143 = some (3, 4, 11, 0, pmc_143) := rfl
  refine pw_ld E (pc' := 1) (st' := [.ref 44]) rfl (fun _ => rfl) ?_
  refine pw_ld E (pc' := 2) (st' := [.ref 16, .ref 44]) rfl (fun _ => rfl) ?_
  refine pw_getR (b := 40) I E (c := 0) (k := 10) (pc' := 5) rfl rfl rfl rfl rfl rfl rfl ?_
  refine pw_ld E (pc' := 6) (st' := [.ref 16, .ref 40, .ref 44]) rfl (fun _ => rfl) ?_
  refine pw_getR (b := 46) I E (c := 0) (k := 13) (pc' := 9) rfl rfl rfl rfl rfl rfl rfl ?_
  obtain ⟨f1l, f1h, -⟩ := pw_obj (c := 28) I rfl
  refine pw_call (m' := 44) (As := [.ref 44, .ref 40, .ref 46]) (rest := []) (ls'' := [some (.ref 44), some (.ref 40), some (.ref 46), none, none]) (by omega) E rfl (fun _ => pw_iV rfl rfl rfl rfl (pw_cellI f1h rfl)) (rfl : pm_ent 44 = some (3, 5, 5, 0, pmc_44)) rfl rfl (cm_44_x28 (by omega) I hX L hR hS hF hL) ?_
  rintro h1 v1 ⟨I1, E1, a, rfl, ha, hb, hw⟩
  have hz : a ≠ 0 ∨ pw_g h1 30 1 ≤ 999 := hw.elim (fun q => Or.inl q.1) (fun ⟨_, _, _, _, _, _, q⟩ => Or.inr q)
  have hx : a = (pt_TX 1 L (pw_g h 24 1).toNat).1 := hw.elim (fun q => q.2.symm) (fun ⟨q0, _, _, _, q, _⟩ => by rw [q]; exact q0)
  refine ⟨_, rfl, ?_⟩
  show pw X d h1 143 12 [some (.ref 16), some (.ref 44), some (.ref (16 + c)), none] [pw_i a] _
  refine pw_istn E (pc' := 13) (ls' := [some (.ref 16), some (.ref 44), some (.ref (16 + c)), some (pw_i a)]) rfl rfl rfl rfl ?_
  refine pw_ld E (pc' := 14) (st' := [.ref 16]) rfl (fun _ => rfl) ?_
  refine pw_getR (b := 40) I1 E (c := 0) (k := 10) (pc' := 17) rfl rfl rfl rfl rfl rfl rfl ?_
  obtain ⟨f2l, f2h, -⟩ := pw_obj (c := 24) I1 rfl
  refine pw_call (m' := 99) (As := [.ref 40]) (rest := []) (ls'' := [some (.ref 40)]) (by omega) E rfl (fun _ => pw_iV rfl rfl rfl rfl (pw_cellI f2h rfl)) (rfl : pm_ent 99 = some (1, 1, 9, 4, pmc_99)) rfl rfl (cm_99_f (by omega) I1) ?_
  rintro h2 v2 ⟨I2, E2, q2, rfl⟩
  refine ⟨_, rfl, ?_⟩
  show pw X d h2 143 20 [some (.ref 16), some (.ref 44), some (.ref (16 + c)), some (pw_i a)] [] _
  have e30 : pw_g h2 30 1 = pw_g h1 30 1 := pw_Eg (c := 30) I1 E2 rfl rfl 1
  have EE : pw_E [24, 28, 29, 30, 31, 32, 33, 34, 36, c, c + 1, c + 2, c + 3, c + 4] h h2 := (E1.wk (W' := [24, 28, 29, 30, 31, 32, 33, 34, 36, c, c + 1, c + 2, c + 3, c + 4]) (by simp)).tr (E2.wk (W' := [24, 28, 29, 30, 31, 32, 33, 34, 36, c, c + 1, c + 2, c + 3, c + 4]) (by simp))
  refine pw_ld E (pc' := 21) (st' := [pw_i a]) rfl (fun _ => rfl) ?_
  refine pw_if E (pc' := 32) rfl (by decide) ha hb ?_ ?_
  · intro _
    refine pw_ld E (pc' := 33) (st' := [pw_i a]) rfl (fun _ => rfl) ?_
    refine pw_iret E rfl ?_
    exact ⟨I2, EE.G, q2, a, rfl, ha, hb, hx⟩
  · intro hn
    have hn : ¬ (a ≠ 0) := hn
    refine pw_ld E (pc' := 25) (st' := [.ref (16 + c)]) rfl (fun _ => rfl) ?_
    refine pw_ld E (pc' := 26) (st' := [.ref 16, .ref (16 + c)]) rfl (fun _ => rfl) ?_
    refine pw_getR (b := 46) I2 E (c := 0) (k := 13) (pc' := 29) rfl rfl rfl rfl rfl rfl rfl ?_
    obtain ⟨f3l, f3h, -⟩ := pw_obj (c := c) I2 (pw_Sc_o hc)
    refine pw_call (m' := 73) (As := [.ref (16 + c), .ref 46]) (rest := []) (ls'' := [some (.ref (16 + c)), some (.ref 46), none]) (by omega) E rfl (fun _ => pw_iV rfl rfl rfl rfl (pw_cellI f3h rfl)) (rfl : pm_ent 73 = some (2, 3, 7, 4, pmc_73)) rfl rfl (cm_73 (by omega) I2 c hc (by omega)) ?_
    rintro h3 v3 ⟨I3, G3, rfl⟩
    refine ⟨_, rfl, ?_⟩
    show pw X d h3 143 32 [some (.ref 16), some (.ref 44), some (.ref (16 + c)), some (pw_i a)] [] _
    refine pw_ld E (pc' := 33) (st' := [pw_i a]) rfl (fun _ => rfl) ?_
    refine pw_iret E rfl ?_
    exact ⟨I3, EE.tG (G3.wk (W' := [24, 28, 29, 30, 31, 32, 33, 34, 36, c, c + 1, c + 2, c + 3, c + 4]) (by simp)), (congrArg pw_iv (pw_Gg (c := 24) I2 G3 rfl (by rcases hc with rfl | rfl | rfl | rfl | rfl | rfl | rfl | rfl <;> decide) 1)).trans q2, a, rfl, ha, hb, hx⟩
set_option maxHeartbeats 4000000 in
theorem cm_141_x {X : List (Nat × List Value)} {d : Nat} {h : pm_H} (hd : 8 ≤ d) (I : pw_I h) (hX : pw_Xk X) (hR : pw_Xr X) (hS : pw_Xs X) (hF : pw_Xf X) (l : Int) (hl1 : (-2147483648) ≤ l) (hl2 : l ≤ 2147483647) : pw X d h 141 0 [some (.ref 16), some (pw_i l)] [] (fun h' v => pw_I h' ∧ pw_G pw_WL h h' ∧ pw_g h' 24 1 = 0 ∧ ∃ a : Int, v = .inl (some (pw_i a)) ∧ (-2147483648) ≤ a ∧ a ≤ 2147483647 ∧ ((¬ (0 ≤ l ∧ l ≤ 3) → a = -1) ∧ (0 ≤ l → l ≤ 3 → ∀ L : List pt_tok, pt_sg (pw_g h 25) (pw_g h 24 1).toNat 0 L (pw_g h 24 1).toNat → a = (pt_TX 0 L (pw_g h 24 1).toNat).1))) := by
  obtain ⟨L, hL⟩ := pt_sg_ex (pw_g h 25) (pw_g h 24 1).toNat
  have E : pm_ent 141 = some (2, 2, 11, 0, pmc_141) := rfl
  refine pw_ld E (pc' := 1) (st' := [pw_i l]) rfl (fun _ => rfl) ?_
  refine pw_call (m' := 142) (As := [pw_i l]) (rest := []) (ls'' := [some (pw_i l)]) (by omega) E rfl (fun _ => pw_iS rfl rfl rfl) (rfl : pm_ent 142 = some (1, 1, 11, 1, pmc_142)) rfl rfl (cm_142 (by omega) I (l) (by omega) (by omega)) ?_
  rintro u v ⟨rfl, x, rfl, hxa, hxb, hxr⟩
  refine ⟨_, rfl, ?_⟩
  show pw X d h 141 4 [some (.ref 16), some (pw_i l)] [pw_i x] _
  refine pw_if E (pc' := 16) rfl (by decide) (by omega) (by omega) ?_ ?_
  · intro hn
    have hn : x ≠ 0 := hn
    refine pw_ld E (pc' := 17) (st' := [.ref 16]) rfl (fun _ => rfl) ?_
    refine pw_ld E (pc' := 18) (st' := [.ref 16, .ref 16]) rfl (fun _ => rfl) ?_
    refine pw_getR (b := 42) I E (c := 0) (k := 11) (pc' := 21) rfl rfl rfl rfl rfl rfl rfl ?_
    refine pw_ld E (pc' := 22) (st' := [.ref 16, .ref 42, .ref 16]) rfl (fun _ => rfl) ?_
    refine pw_getR (b := 53) I E (c := 0) (k := 14) (pc' := 25) rfl rfl rfl rfl rfl rfl rfl ?_
    refine pw_ld E (pc' := 26) (st' := [pw_i l, .ref 53, .ref 42, .ref 16]) rfl (fun _ => rfl) ?_
    obtain ⟨c, hc, hcl⟩ : ∃ c : Nat, pw_Sc c ∧ (((55 : Int) + 14 * ((l.toNat : Nat) : Int)).toNat = 16 + c) := by
      rcases (by omega : l = 0 ∨ l = 1 ∨ l = 2 ∨ l = 3) with rfl | rfl | rfl | rfl
      · exact ⟨39, by unfold pw_Sc; omega, rfl⟩
      · exact ⟨53, by unfold pw_Sc; omega, rfl⟩
      · exact ⟨67, by unfold pw_Sc; omega, rfl⟩
      · exact ⟨81, by unfold pw_Sc; omega, rfl⟩
    refine pw_aald (b := 16 + c) I E (c := 37) (pc' := 27) rfl rfl (by decide) rfl (by decide) (by omega) (by omega) hcl rfl ?_
    obtain ⟨f1l, f1h, -⟩ := pw_obj (c := 0) I rfl
    refine pw_call (m' := 143) (As := [.ref 16, .ref 42, .ref (16 + c)]) (rest := []) (ls'' := [some (.ref 16), some (.ref 42), some (.ref (16 + c)), none]) (by omega) E rfl (fun _ => pw_iV rfl rfl rfl rfl (pw_cellI f1h rfl)) (rfl : pm_ent 143 = some (3, 4, 11, 0, pmc_143)) rfl rfl (cm_143_26x (by omega) I hX hR hS hF L hL c hc) ?_
    rintro h1 v1 ⟨I1, G1, q1, a, rfl, ha, hb, hx⟩
    refine ⟨_, rfl, ?_⟩
    show pw X d h1 141 30 [some (.ref 16), some (pw_i l)] [pw_i a] _
    refine pw_iret E rfl ?_
    refine ⟨I1, G1.wk ?_, q1, a, rfl, ha, hb, fun q => absurd ⟨by omega, by omega⟩ q, fun _ _ L2 hL2 => by rw [pt_sg.u hL2 hL]; exact hx⟩
    rcases hc with rfl | rfl | rfl | rfl | rfl | rfl | rfl | rfl <;> decide
  · intro hn
    have hn : ¬ (x ≠ 0) := hn
    refine pw_ld E (pc' := 8) (st' := [.ref 16]) rfl (fun _ => rfl) ?_
    refine pw_getR (b := 40) I E (c := 0) (k := 10) (pc' := 11) rfl rfl rfl rfl rfl rfl rfl ?_
    obtain ⟨f2l, f2h, -⟩ := pw_obj (c := 24) I rfl
    refine pw_call (m' := 99) (As := [.ref 40]) (rest := []) (ls'' := [some (.ref 40)]) (by omega) E rfl (fun _ => pw_iV rfl rfl rfl rfl (pw_cellI f2h rfl)) (rfl : pm_ent 99 = some (1, 1, 9, 4, pmc_99)) rfl rfl (cm_99_f (by omega) I) ?_
    rintro h2 v2 ⟨I2, E2, q2, rfl⟩
    refine ⟨_, rfl, ?_⟩
    show pw X d h2 141 14 [some (.ref 16), some (pw_i l)] [] _
    refine pw_ld E (pc' := 15) (st' := [pw_i (-1)]) rfl (fun _ => rfl) ?_
    refine pw_iret E rfl ?_
    exact ⟨I2, (E2.wk (W' := pw_WL) (by decide)).G, q2, -1, rfl, by decide, by decide, fun _ => rfl, fun q1 q2 => by exfalso; omega⟩
set_option maxHeartbeats 4000000 in
theorem cm_153_x {X : List (Nat × List Value)} {d : Nat} {h : pm_H} (hd : 8 ≤ d) (I : pw_I h) (hX : pw_Xk X) (hR : pw_Xr X) (hS : pw_Xs X) (hF : pw_Xf X) (l : Int) (hl1 : (-2147483648) ≤ l) (hl2 : l ≤ 2147483647) : pw X d h 153 0 [some (.ref 16), some (pw_i l)] [] (fun h' v => pw_I h' ∧ pw_G pw_WL h h' ∧ pw_g h' 24 1 = 0 ∧ ∃ a : Int, v = .inl (some (pw_i a)) ∧ (-2147483648) ≤ a ∧ a ≤ 2147483647 ∧ ((¬ (0 ≤ l ∧ l ≤ 3) → a = -1) ∧ (0 ≤ l → l ≤ 3 → ∀ L : List pt_tok, pt_sg (pw_g h 25) (pw_g h 24 1).toNat 0 L (pw_g h 24 1).toNat → a = (pt_TX 1 L (pw_g h 24 1).toNat).1))) := by
  obtain ⟨L, hL⟩ := pt_sg_ex (pw_g h 25) (pw_g h 24 1).toNat
  have E : pm_ent 153 = some (2, 2, 11, 0, pmc_153) := rfl
  refine pw_ld E (pc' := 1) (st' := [pw_i l]) rfl (fun _ => rfl) ?_
  refine pw_call (m' := 142) (As := [pw_i l]) (rest := []) (ls'' := [some (pw_i l)]) (by omega) E rfl (fun _ => pw_iS rfl rfl rfl) (rfl : pm_ent 142 = some (1, 1, 11, 1, pmc_142)) rfl rfl (cm_142 (by omega) I (l) (by omega) (by omega)) ?_
  rintro u v ⟨rfl, x, rfl, hxa, hxb, hxr⟩
  refine ⟨_, rfl, ?_⟩
  show pw X d h 153 4 [some (.ref 16), some (pw_i l)] [pw_i x] _
  refine pw_if E (pc' := 16) rfl (by decide) (by omega) (by omega) ?_ ?_
  · intro hn
    have hn : x ≠ 0 := hn
    refine pw_ld E (pc' := 17) (st' := [.ref 16]) rfl (fun _ => rfl) ?_
    refine pw_ld E (pc' := 18) (st' := [.ref 16, .ref 16]) rfl (fun _ => rfl) ?_
    refine pw_getR (b := 44) I E (c := 0) (k := 12) (pc' := 21) rfl rfl rfl rfl rfl rfl rfl ?_
    refine pw_ld E (pc' := 22) (st' := [.ref 16, .ref 44, .ref 16]) rfl (fun _ => rfl) ?_
    refine pw_getR (b := 54) I E (c := 0) (k := 15) (pc' := 25) rfl rfl rfl rfl rfl rfl rfl ?_
    refine pw_ld E (pc' := 26) (st' := [pw_i l, .ref 54, .ref 44, .ref 16]) rfl (fun _ => rfl) ?_
    obtain ⟨c, hc, hcl⟩ : ∃ c : Nat, pw_Sc c ∧ (((62 : Int) + 14 * ((l.toNat : Nat) : Int)).toNat = 16 + c) := by
      rcases (by omega : l = 0 ∨ l = 1 ∨ l = 2 ∨ l = 3) with rfl | rfl | rfl | rfl
      · exact ⟨46, by unfold pw_Sc; omega, rfl⟩
      · exact ⟨60, by unfold pw_Sc; omega, rfl⟩
      · exact ⟨74, by unfold pw_Sc; omega, rfl⟩
      · exact ⟨88, by unfold pw_Sc; omega, rfl⟩
    refine pw_aald (b := 16 + c) I E (c := 38) (pc' := 27) rfl rfl (by decide) rfl (by decide) (by omega) (by omega) hcl rfl ?_
    obtain ⟨f1l, f1h, -⟩ := pw_obj (c := 0) I rfl
    refine pw_call (m' := 143) (As := [.ref 16, .ref 44, .ref (16 + c)]) (rest := []) (ls'' := [some (.ref 16), some (.ref 44), some (.ref (16 + c)), none]) (by omega) E rfl (fun _ => pw_iV rfl rfl rfl rfl (pw_cellI f1h rfl)) (rfl : pm_ent 143 = some (3, 4, 11, 0, pmc_143)) rfl rfl (cm_143_28x (by omega) I hX hR hS hF L hL c hc) ?_
    rintro h1 v1 ⟨I1, G1, q1, a, rfl, ha, hb, hx⟩
    refine ⟨_, rfl, ?_⟩
    show pw X d h1 153 30 [some (.ref 16), some (pw_i l)] [pw_i a] _
    refine pw_iret E rfl ?_
    refine ⟨I1, G1.wk ?_, q1, a, rfl, ha, hb, fun q => absurd ⟨by omega, by omega⟩ q, fun _ _ L2 hL2 => by rw [pt_sg.u hL2 hL]; exact hx⟩
    rcases hc with rfl | rfl | rfl | rfl | rfl | rfl | rfl | rfl <;> decide
  · intro hn
    have hn : ¬ (x ≠ 0) := hn
    refine pw_ld E (pc' := 8) (st' := [.ref 16]) rfl (fun _ => rfl) ?_
    refine pw_getR (b := 40) I E (c := 0) (k := 10) (pc' := 11) rfl rfl rfl rfl rfl rfl rfl ?_
    obtain ⟨f2l, f2h, -⟩ := pw_obj (c := 24) I rfl
    refine pw_call (m' := 99) (As := [.ref 40]) (rest := []) (ls'' := [some (.ref 40)]) (by omega) E rfl (fun _ => pw_iV rfl rfl rfl rfl (pw_cellI f2h rfl)) (rfl : pm_ent 99 = some (1, 1, 9, 4, pmc_99)) rfl rfl (cm_99_f (by omega) I) ?_
    rintro h2 v2 ⟨I2, E2, q2, rfl⟩
    refine ⟨_, rfl, ?_⟩
    show pw X d h2 153 14 [some (.ref 16), some (pw_i l)] [] _
    refine pw_ld E (pc' := 15) (st' := [pw_i (-1)]) rfl (fun _ => rfl) ?_
    refine pw_iret E rfl ?_
    exact ⟨I2, (E2.wk (W' := pw_WL) (by decide)).G, q2, -1, rfl, by decide, by decide, fun _ => rfl, fun q1 q2 => by exfalso; omega⟩
end
