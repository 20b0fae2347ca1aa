/-! contracts (printed by wip/tool/pwspec.py) -/
set_option maxHeartbeats 4000000 in
theorem cm_302 {X : List (Nat × List Value)} {d : Nat} {h : pm_H} (hd : 2 ≤ d) (I : pw_I h) (ix : Int) (hix1 : 0 ≤ ix) (hix2 : ix ≤ 287) : pw X d h 302 0 [some (.ref 141), some (pw_i ix)] [] (fun h' v => h = h' ∧ ∃ a : Int, v = .inl (some (pw_i a)) ∧ (-2147483648) ≤ a ∧ a ≤ 2147483647) := by
  have E : pm_ent 302 = some (2, 2, 12, 0, pmc_302) := rfl
  refine pw_ld E (pc' := 1) (st' := [.ref 141]) rfl (fun _ => rfl) ?_
  refine pw_ld E (pc' := 2) (st' := [.ref 141, .ref 141]) rfl (fun _ => rfl) ?_
  refine pw_getR (b := 158) I E (c := 125) (k := 22) (pc' := 5) rfl rfl rfl rfl rfl rfl rfl ?_
  refine pw_ld E (pc' := 6) (st' := [pw_i ix, .ref 158, .ref 141]) rfl (fun _ => rfl) ?_
  refine pw_ald2 I E (c := 142) (pc' := 7) rfl rfl rfl (by decide) rfl (by decide) (by omega) (by omega) rfl (fun hf1a hf1b => ?_)
  refine pw_ld E (pc' := 8) (st' := [.ref 141, pw_i (pw_g h 142 (ix.toNat)), .ref 141]) rfl (fun _ => rfl) ?_
  refine pw_getR (b := 159) I E (c := 125) (k := 23) (pc' := 11) rfl rfl rfl rfl rfl rfl rfl ?_
  refine pw_ld E (pc' := 12) (st' := [pw_i ix, .ref 159, pw_i (pw_g h 142 (ix.toNat)), .ref 141]) rfl (fun _ => rfl) ?_
  refine pw_ald2 I E (c := 143) (pc' := 13) rfl rfl rfl (by decide) rfl (by decide) (by omega) (by omega) rfl (fun hf2a hf2b => ?_)
  obtain ⟨f3l, f3h, -⟩ := pw_obj (c := 125) I rfl
  refine pw_call (m' := 211) (As := [.ref 141, pw_i (pw_g h 142 (ix.toNat)), pw_i (pw_g h 143 (ix.toNat))]) (rest := []) (ls'' := [some (.ref 141), some (pw_i (pw_g h 142 (ix.toNat))), some (pw_i (pw_g h 143 (ix.toNat)))]) (Nat.le_trans (by decide) hd) E rfl (fun _ => pw_iV rfl rfl rfl rfl (pw_cellI f3h rfl)) (rfl : pm_ent 211 = some (3, 3, 12, 0, pmc_211)) rfl rfl (cm_211 (pw_dp hd (by decide)) I (pw_g h 142 (ix.toNat)) (by omega) (by omega) (pw_g h 143 (ix.toNat)) (by omega) (by omega)) ?_
  rintro u5 v4 ⟨rfl, x6, rfl, hx6a, hx6b⟩
  refine ⟨_, rfl, ?_⟩
  show pw X d h 302 16 [some (.ref 141), some (pw_i ix)] [pw_i x6] _
  refine pw_iret E rfl ?_
  exact ⟨rfl, ⟨_, rfl, by omega, by omega⟩⟩
set_option maxHeartbeats 4000000 in
theorem cm_230 {X : List (Nat × List Value)} {d : Nat} {h : pm_H} (hd : 4 ≤ d) (I : pw_I h) (b : Int) (hb1 : (-2147483648) ≤ b) (hb2 : b ≤ 2147483647) (e : Int) (he1 : (-2147483648) ≤ e) (he2 : e ≤ 2147483647) (z : Int) (hz1 : 0 ≤ z) (hz2 : z ≤ 1) (wt : Int) (hwt1 : (-2147483648) ≤ wt) (hwt2 : wt ≤ 2147483647) : pw X d h 230 0 [some (.ref 141), some (pw_i b), some (pw_i e), some (pw_i z), some (pw_i wt), none, none, none] [] (fun h' v => pw_I h' ∧ pw_E [125] h h' ∧ ∃ w : Int64, v = .inl (some (.long w))) := by
  have E : pm_ent 230 = some (5, 8, 12, 2, pmc_230) := rfl
  have E0 : pw_E [125] h h := pw_E.rf _ _
  refine pw_ld E (pc' := 1) (st' := [.ref 141]) rfl (fun _ => rfl) ?_
  refine pw_ld E (pc' := 2) (st' := [pw_i b, .ref 141]) rfl (fun _ => rfl) ?_
  refine pw_ld E (pc' := 3) (st' := [pw_i e, pw_i b, .ref 141]) rfl (fun _ => rfl) ?_
  refine pw_call (m' := 213) (As := [pw_i b, pw_i e]) (rest := [.ref 141]) (ls'' := [some (pw_i b), some (pw_i e)]) (Nat.le_trans (by decide) hd) E rfl (fun _ => pw_iS rfl rfl rfl) (rfl : pm_ent 213 = some (2, 2, 12, 1, pmc_213)) rfl rfl (cm_213 (pw_dp hd (by decide)) I (b) (by omega) (by omega) (e) (by omega) (by omega)) ?_
  rintro u2 v1 ⟨rfl, x3, rfl, hx3a, hx3b, hx3r⟩
  refine ⟨_, rfl, ?_⟩
  show pw X d h 230 6 [some (.ref 141), some (pw_i b), some (pw_i e), some (pw_i z), some (pw_i wt), none, none, none] [pw_i x3, .ref 141] _
  change (x3 = 1 ∧ 0 ≤ b ∧ b ≤ 11 ∧ 0 ≤ e ∧ e ≤ 11) ∨ x3 = 0 at hx3r
  rcases (by omega : x3 = 1 ∨ x3 = 0) with hb4 | hb4
  · skip
    refine pw_if E (pc' := 21) rfl (by decide) (by omega) (by omega) ?_ ?_
    · intro hc5
      change x3 = (0 : Int) at hc5
      exfalso; omega
    · intro hc6
      change ¬ (x3 = (0 : Int)) at hc6
      refine pw_ld E (pc' := 11) (st' := [pw_i wt, .ref 141]) rfl (fun _ => rfl) ?_
      refine pw_call (m' := 217) (As := [pw_i wt]) (rest := [.ref 141]) (ls'' := [some (pw_i wt)]) (Nat.le_trans (by decide) hd) E rfl (fun _ => pw_iS rfl rfl rfl) (rfl : pm_ent 217 = some (1, 1, 12, 1, pmc_217)) rfl rfl (cm_217 (pw_dp hd (by decide)) I (wt) (by omega) (by omega)) ?_
      rintro u8 v7 ⟨rfl, x9, rfl, hx9a, hx9b, hx9r⟩
      refine ⟨_, rfl, ?_⟩
      show pw X d h 230 14 [some (.ref 141), some (pw_i b), some (pw_i e), some (pw_i z), some (pw_i wt), none, none, none] [pw_i x9, .ref 141] _
      change (x9 = 1 ∧ 0 ≤ wt ∧ wt ≤ 1) ∨ (x9 = 0 ∧ ¬ (0 ≤ wt ∧ wt ≤ 1)) at hx9r
      rcases (by omega : x9 = 1 ∨ x9 = 0) with hb10 | hb10
      · skip
        refine pw_if E (pc' := 21) rfl (by decide) (by omega) (by omega) ?_ ?_
        · intro hc11
          change x9 = (0 : Int) at hc11
          exfalso; omega
        · intro hc12
          change ¬ (x9 = (0 : Int)) at hc12
          refine pw_ld E (pc' := 18) (st' := [pw_i 0, .ref 141]) rfl (fun _ => rfl) ?_
          refine pw_goto E (pc' := 22) rfl (by decide) ?_
          refine pw_putI I E (c := 125) (k := 0) (pc' := 25) rfl rfl rfl rfl (by omega) (by omega) (by omega) (by omega) rfl rfl ?_
          intro h13I h13E
          generalize h13w : pw_w h 125 0 (pw_i 0) = h13 at h13I h13E ⊢
          have h13F := E0.tr (h13E.wk (W' := [125]) (by first | rfl | simp))
          refine pw_ld E (pc' := 26) (st' := [.ref 141]) rfl (fun _ => rfl) ?_
          have he15 : pw_g h13 125 0 = 0 := by rw [← h13w]; exact pw_g_eq (c := 125) (k := 0) I rfl rfl (by omega) (by omega)
          refine pw_getI2 h13I E (c := 125) (k := 0) (pc' := 29) rfl rfl rfl rfl rfl rfl (fun hf14a hf14b => ?_)
          refine pw_if E (pc' := 34) rfl (by decide) (by omega) (by omega) ?_ ?_
          · intro hc16
            change pw_g h13 125 0 ≤ (0 : Int) at hc16
            refine pw_ld E (pc' := 35) (st' := [.ref 141]) rfl (fun _ => rfl) ?_
            obtain ⟨f17l, f17h, -⟩ := pw_obj (c := 125) h13I rfl
            refine pw_call (m' := 219) (As := [.ref 141]) (rest := []) (ls'' := [some (.ref 141)]) (Nat.le_trans (by decide) hd) E rfl (fun _ => pw_iV rfl rfl rfl rfl (pw_cellI f17h rfl)) (rfl : pm_ent 219 = some (1, 1, 12, 4, pmc_219)) rfl rfl (cm_219 (pw_dp hd (by decide)) h13I ) ?_
            rintro h18 v19 ⟨h18I, h18E, hq20, rfl⟩
            refine ⟨_, rfl, ?_⟩
            have h18F := h13F.tr (h18E.wk (W' := [125]) (by first | rfl | simp))
            show pw X d h18 230 38 [some (.ref 141), some (pw_i b), some (pw_i e), some (pw_i z), some (pw_i wt), none, none, none] [] _
            refine pw_ld E (pc' := 39) (st' := [pw_i 0]) rfl (fun _ => rfl) ?_
            refine pw_ist E (pc' := 41) (ls' := [some (.ref 141), some (pw_i b), some (pw_i e), some (pw_i z), some (pw_i wt), some (pw_i 0), none, none]) rfl rfl rfl rfl ?_
            have L41 : ∀ (n41 : Nat) (k41_5 : Int) (k41_6 : Option Value) (k41_7 : Option Value) (gh41 : pm_H), pw_I gh41 → pw_E [125] h gh41 → 0 ≤ k41_5 → k41_5 ≤ 24 → pw_gm gh41 125 27 + pw_gm gh41 125 29 ≤ k41_5 → 0 ≤ pw_gm gh41 125 27 → 0 ≤ pw_gm gh41 125 29 → (24 - k41_5).toNat = n41 → pw X d gh41 230 41 [some (.ref 141), some (pw_i b), some (pw_i e), some (pw_i z), some (pw_i wt), some (pw_i k41_5), k41_6, k41_7] [] (fun h' v => pw_I h' ∧ pw_E [125] h h' ∧ ∃ w : Int64, v = .inl (some (.long w))) := by
              intro n41
              induction n41 using Nat.strongRecOn with
              | ind n41 ih41 =>
                intro k41_5 k41_6 k41_7 gh41 I41 E41 k41_5a k41_5b hx41_0 hx41_1 hx41_2 hm41
                refine pw_ld E (pc' := 43) (st' := [pw_i k41_5]) rfl (fun _ => rfl) ?_
                refine pw_bip E (pc' := 45) rfl rfl (by decide) ?_
                refine pw_if2 E (pc' := 175) rfl (by decide) (by omega) (by omega) (by decide) (by decide) ?_ ?_
                · intro hc21
                  change (24 : Int) ≤ k41_5 at hc21
                  refine pw_ld E (pc' := 176) (st' := [.ref 141]) rfl (fun _ => rfl) ?_
                  refine pw_ld E (pc' := 177) (st' := [.ref 141, .ref 141]) rfl (fun _ => rfl) ?_
                  obtain ⟨f22l, f22h, -⟩ := pw_obj (c := 125) I41 rfl
                  refine pw_call (m' := 221) (As := [.ref 141]) (rest := [.ref 141]) (ls'' := [some (.ref 141)]) (Nat.le_trans (by decide) hd) E rfl (fun _ => pw_iV rfl rfl rfl rfl (pw_cellI f22h rfl)) (rfl : pm_ent 221 = some (1, 1, 12, 1, pmc_221)) rfl rfl (cm_221 (pw_dp hd (by decide)) I41 ) ?_
                  rintro h23 v24 ⟨h23I, h23E, x25, rfl, hx25a, hx25b, hx25r⟩
                  refine ⟨_, rfl, ?_⟩
                  have h23F := E41.tr (h23E.wk (W' := [125]) (by first | rfl | simp))
                  show pw X d h23 230 180 [some (.ref 141), some (pw_i b), some (pw_i e), some (pw_i z), some (pw_i wt), some (pw_i k41_5), k41_6, k41_7] [pw_i x25, .ref 141] _
                  change (x25 = 1 ∧ 1 ≤ pw_gm h23 125 25 ∧ pw_gm h23 125 25 ≤ 576) ∨ x25 = 0 at hx25r
                  rcases (by omega : x25 = 1 ∨ x25 = 0) with hb26 | hb26
                  · skip
                    refine pw_if E (pc' := 187) rfl (by decide) (by omega) (by omega) ?_ ?_
                    · intro hc27
                      change x25 = (0 : Int) at hc27
                      exfalso; omega
                    · intro hc28
                      change ¬ (x25 = (0 : Int)) at hc28
                      refine pw_ld E (pc' := 184) (st' := [pw_i 0, .ref 141]) rfl (fun _ => rfl) ?_
                      refine pw_goto E (pc' := 188) rfl (by decide) ?_
                      refine pw_putI h23I E (c := 125) (k := 0) (pc' := 191) rfl rfl rfl rfl (by omega) (by omega) (by omega) (by omega) rfl rfl ?_
                      intro h29I h29E
                      generalize h29w : pw_w h23 125 0 (pw_i 0) = h29 at h29I h29E ⊢
                      have h29F := h23F.tr (h29E.wk (W' := [125]) (by first | rfl | simp))
                      refine pw_ld E (pc' := 192) (st' := [.ref 141]) rfl (fun _ => rfl) ?_
                      have he31 : pw_g h29 125 0 = 0 := by rw [← h29w]; exact pw_g_eq (c := 125) (k := 0) h23I rfl rfl (by omega) (by omega)
                      refine pw_getI2 h29I E (c := 125) (k := 0) (pc' := 195) rfl rfl rfl rfl rfl rfl (fun hf30a hf30b => ?_)
                      refine pw_if E (pc' := 202) rfl (by decide) (by omega) (by omega) ?_ ?_
                      · intro hc32
                        change pw_g h29 125 0 ≤ (0 : Int) at hc32
                        refine pw_ld E (pc' := 203) (st' := [.ref 141]) rfl (fun _ => rfl) ?_
                        refine pw_ld E (pc' := 205) (st' := [pw_i wt, .ref 141]) rfl (fun _ => rfl) ?_
                        have he33 : pw_gm h29 125 25 = pw_gm h23 125 25 := by rw [← h29w]; exact pw_gm_ne (by omega)
                        obtain ⟨f34l, f34h, -⟩ := pw_obj (c := 125) h29I rfl
                        refine pw_call (m' := 222) (As := [.ref 141, pw_i wt]) (rest := []) (ls'' := [some (.ref 141), some (pw_i wt), none, none]) (Nat.le_trans (by decide) hd) E rfl (fun _ => pw_iV rfl rfl rfl rfl (pw_cellI f34h rfl)) (rfl : pm_ent 222 = some (2, 4, 12, 2, pmc_222)) rfl rfl (cm_222 (pw_dp hd (by decide)) h29I (wt) (by omega) (by omega) (by omega)) ?_
                        rintro u36 v35 ⟨rfl, w37, rfl⟩
                        refine ⟨_, rfl, ?_⟩
                        show pw X d h29 230 208 [some (.ref 141), some (pw_i b), some (pw_i e), some (pw_i z), some (pw_i wt), some (pw_i k41_5), k41_6, k41_7] [.long w37] _
                        refine pw_lret E rfl ?_
                        exact ⟨h29I, h29F, ⟨_, rfl⟩⟩
                      · intro hc38
                        change ¬ (pw_g h29 125 0 ≤ (0 : Int)) at hc38
                        exfalso; omega
                  · skip
                    refine pw_if E (pc' := 187) rfl (by decide) (by omega) (by omega) ?_ ?_
                    · intro hc40
                      change x25 = (0 : Int) at hc40
                      refine pw_ld E (pc' := 188) (st' := [pw_i 1, .ref 141]) rfl (fun _ => rfl) ?_
                      refine pw_putI h23I E (c := 125) (k := 0) (pc' := 191) rfl rfl rfl rfl (by omega) (by omega) (by omega) (by omega) rfl rfl ?_
                      intro h41I h41E
                      generalize h41w : pw_w h23 125 0 (pw_i 1) = h41 at h41I h41E ⊢
                      have h41F := h23F.tr (h41E.wk (W' := [125]) (by first | rfl | simp))
                      refine pw_ld E (pc' := 192) (st' := [.ref 141]) rfl (fun _ => rfl) ?_
                      have he43 : pw_g h41 125 0 = 1 := by rw [← h41w]; exact pw_g_eq (c := 125) (k := 0) h23I rfl rfl (by omega) (by omega)
                      refine pw_getI2 h41I E (c := 125) (k := 0) (pc' := 195) rfl rfl rfl rfl rfl rfl (fun hf42a hf42b => ?_)
                      refine pw_if E (pc' := 202) rfl (by decide) (by omega) (by omega) ?_ ?_
                      · intro hc44
                        change pw_g h41 125 0 ≤ (0 : Int) at hc44
                        exfalso; omega
                      · intro hc45
                        change ¬ (pw_g h41 125 0 ≤ (0 : Int)) at hc45
                        refine pw_ld E (pc' := 199) (st' := [.long (Int64.ofInt 0)]) rfl (fun _ => rfl) ?_
                        refine pw_goto E (pc' := 208) rfl (by decide) ?_
                        refine pw_lret E rfl ?_
                        exact ⟨h41I, h41F, ⟨_, rfl⟩⟩
                    · intro hc46
                      change ¬ (x25 = (0 : Int)) at hc46
                      exfalso; omega
                · intro hc47
                  change ¬ ((24 : Int) ≤ k41_5) at hc47
                  refine pw_bip E (pc' := 50) rfl rfl (by decide) ?_
                  refine pw_ld E (pc' := 52) (st' := [pw_i k41_5, pw_i 12]) rfl (fun _ => rfl) ?_
                  refine pw_mul E (pc' := 53) rfl rfl ?_
                  refine pw_ld E (pc' := 54) (st' := [pw_i b, pw_i (12 * k41_5)]) rfl (fun _ => rfl) ?_
                  refine pw_add E (pc' := 55) rfl rfl ?_
                  refine pw_ist E (pc' := 57) (ls' := [some (.ref 141), some (pw_i b), some (pw_i e), some (pw_i z), some (pw_i wt), some (pw_i k41_5), some (pw_i ((12 * k41_5) + b)), k41_7]) rfl rfl rfl rfl ?_
                  refine pw_bip E (pc' := 59) rfl rfl (by decide) ?_
                  refine pw_ld E (pc' := 61) (st' := [pw_i k41_5, pw_i 12]) rfl (fun _ => rfl) ?_
                  refine pw_mul E (pc' := 62) rfl rfl ?_
                  refine pw_ld E (pc' := 63) (st' := [pw_i e, pw_i (12 * k41_5)]) rfl (fun _ => rfl) ?_
                  refine pw_add E (pc' := 64) rfl rfl ?_
                  refine pw_ist E (pc' := 66) (ls' := [some (.ref 141), some (pw_i b), some (pw_i e), some (pw_i z), some (pw_i wt), some (pw_i k41_5), some (pw_i ((12 * k41_5) + b)), some (pw_i ((12 * k41_5) + e))]) rfl rfl rfl rfl ?_
                  refine pw_ld E (pc' := 67) (st' := [.ref 141]) rfl (fun _ => rfl) ?_
                  refine pw_getR (b := 147) I41 E (c := 125) (k := 10) (pc' := 70) rfl rfl rfl rfl rfl rfl rfl ?_
                  refine pw_ld E (pc' := 72) (st' := [pw_i k41_5, .ref 147]) rfl (fun _ => rfl) ?_
                  refine pw_ald2 I41 E (c := 131) (pc' := 73) rfl rfl rfl (by decide) rfl (by decide) (by omega) (by omega) rfl (fun hf48a hf48b => ?_)
                  refine pw_if E (pc' := 169) rfl (by decide) (by omega) (by omega) ?_ ?_
                  · intro hc49
                    change pw_g gh41 131 (k41_5.toNat) = (0 : Int) at hc49
                    refine pw_inc E (pc' := 172) (ls' := [some (.ref 141), some (pw_i b), some (pw_i e), some (pw_i z), some (pw_i wt), some (pw_i (k41_5 + 1)), some (pw_i ((12 * k41_5) + b)), some (pw_i ((12 * k41_5) + e))]) rfl rfl rfl rfl ?_
                    refine pw_goto E (pc' := 41) rfl (by decide) ?_
                    exact ih41 _ (by omega) (k41_5 + 1) (some (pw_i ((12 * k41_5) + b))) (some (pw_i ((12 * k41_5) + e))) gh41 I41 E41 (by omega) (by omega) (by omega) (by omega) (by omega) rfl
                  · intro hc50
                    change ¬ (pw_g gh41 131 (k41_5.toNat) = (0 : Int)) at hc50
                    refine pw_ld E (pc' := 77) (st' := [pw_i z]) rfl (fun _ => rfl) ?_
                    refine pw_if E (pc' := 90) rfl (by decide) (by omega) (by omega) ?_ ?_
                    · intro hc51
                      change z = (0 : Int) at hc51
                      refine pw_ld E (pc' := 91) (st' := [.ref 141]) rfl (fun _ => rfl) ?_
                      refine pw_getR (b := 157) I41 E (c := 125) (k := 21) (pc' := 94) rfl rfl rfl rfl rfl rfl rfl ?_
                      refine pw_ld E (pc' := 96) (st' := [pw_i ((12 * k41_5) + b), .ref 157]) rfl (fun _ => rfl) ?_
                      refine pw_ald2 I41 E (c := 141) (pc' := 97) rfl rfl rfl (by decide) rfl (by decide) (by omega) (by omega) rfl (fun hf52a hf52b => ?_)
                      refine pw_ld E (pc' := 98) (st' := [pw_i 1, pw_i (pw_g gh41 141 (((12 * k41_5) + b).toNat))]) rfl (fun _ => rfl) ?_
                      refine pw_if2 E (pc' := 169) rfl (by decide) (by omega) (by omega) (by decide) (by decide) ?_ ?_
                      · intro hc53
                        change pw_g gh41 141 (((12 * k41_5) + b).toNat) ≠ (1 : Int) at hc53
                        refine pw_inc E (pc' := 172) (ls' := [some (.ref 141), some (pw_i b), some (pw_i e), some (pw_i z), some (pw_i wt), some (pw_i (k41_5 + 1)), some (pw_i ((12 * k41_5) + b)), some (pw_i ((12 * k41_5) + e))]) rfl rfl rfl rfl ?_
                        refine pw_goto E (pc' := 41) rfl (by decide) ?_
                        exact ih41 _ (by omega) (k41_5 + 1) (some (pw_i ((12 * k41_5) + b))) (some (pw_i ((12 * k41_5) + e))) gh41 I41 E41 (by omega) (by omega) (by omega) (by omega) (by omega) rfl
                      · intro hc54
                        change ¬ (pw_g gh41 141 (((12 * k41_5) + b).toNat) ≠ (1 : Int)) at hc54
                        refine pw_ld E (pc' := 102) (st' := [.ref 141]) rfl (fun _ => rfl) ?_
                        refine pw_getR (b := 157) I41 E (c := 125) (k := 21) (pc' := 105) rfl rfl rfl rfl rfl rfl rfl ?_
                        refine pw_ld E (pc' := 107) (st' := [pw_i ((12 * k41_5) + e), .ref 157]) rfl (fun _ => rfl) ?_
                        refine pw_ald2 I41 E (c := 141) (pc' := 108) rfl rfl rfl (by decide) rfl (by decide) (by omega) (by omega) rfl (fun hf55a hf55b => ?_)
                        refine pw_ld E (pc' := 109) (st' := [pw_i 1, pw_i (pw_g gh41 141 (((12 * k41_5) + e).toNat))]) rfl (fun _ => rfl) ?_
                        refine pw_if2 E (pc' := 169) rfl (by decide) (by omega) (by omega) (by decide) (by decide) ?_ ?_
                        · intro hc56
                          change pw_g gh41 141 (((12 * k41_5) + e).toNat) ≠ (1 : Int) at hc56
                          refine pw_inc E (pc' := 172) (ls' := [some (.ref 141), some (pw_i b), some (pw_i e), some (pw_i z), some (pw_i wt), some (pw_i (k41_5 + 1)), some (pw_i ((12 * k41_5) + b)), some (pw_i ((12 * k41_5) + e))]) rfl rfl rfl rfl ?_
                          refine pw_goto E (pc' := 41) rfl (by decide) ?_
                          exact ih41 _ (by omega) (k41_5 + 1) (some (pw_i ((12 * k41_5) + b))) (some (pw_i ((12 * k41_5) + e))) gh41 I41 E41 (by omega) (by omega) (by omega) (by omega) (by omega) rfl
                        · intro hc57
                          change ¬ (pw_g gh41 141 (((12 * k41_5) + e).toNat) ≠ (1 : Int)) at hc57
                          refine pw_ld E (pc' := 113) (st' := [.ref 141]) rfl (fun _ => rfl) ?_
                          refine pw_ld E (pc' := 114) (st' := [.ref 141, .ref 141]) rfl (fun _ => rfl) ?_
                          refine pw_getR (b := 148) I41 E (c := 125) (k := 11) (pc' := 117) rfl rfl rfl rfl rfl rfl rfl ?_
                          refine pw_ld E (pc' := 119) (st' := [pw_i k41_5, .ref 148, .ref 141]) rfl (fun _ => rfl) ?_
                          refine pw_ald2 I41 E (c := 132) (pc' := 120) rfl rfl rfl (by decide) rfl (by decide) (by omega) (by omega) rfl (fun hf58a hf58b => ?_)
                          refine pw_if E (pc' := 127) rfl (by decide) (by omega) (by omega) ?_ ?_
                          · intro hc59
                            change pw_g gh41 132 (k41_5.toNat) ≠ (0 : Int) at hc59
                            refine pw_ld E (pc' := 128) (st' := [pw_i 0, .ref 141]) rfl (fun _ => rfl) ?_
                            refine pw_ld E (pc' := 129) (st' := [.ref 141, pw_i 0, .ref 141]) rfl (fun _ => rfl) ?_
                            refine pw_ld E (pc' := 130) (st' := [.ref 141, .ref 141, pw_i 0, .ref 141]) rfl (fun _ => rfl) ?_
                            refine pw_getR (b := 158) I41 E (c := 125) (k := 22) (pc' := 133) rfl rfl rfl rfl rfl rfl rfl ?_
                            refine pw_ld E (pc' := 135) (st' := [pw_i ((12 * k41_5) + e), .ref 158, .ref 141, pw_i 0, .ref 141]) rfl (fun _ => rfl) ?_
                            refine pw_ald2 I41 E (c := 142) (pc' := 136) rfl rfl rfl (by decide) rfl (by decide) (by omega) (by omega) rfl (fun hf60a hf60b => ?_)
                            refine pw_ld E (pc' := 137) (st' := [.ref 141, pw_i (pw_g gh41 142 (((12 * k41_5) + e).toNat)), .ref 141, pw_i 0, .ref 141]) rfl (fun _ => rfl) ?_
                            refine pw_getR (b := 159) I41 E (c := 125) (k := 23) (pc' := 140) rfl rfl rfl rfl rfl rfl rfl ?_
                            refine pw_ld E (pc' := 142) (st' := [pw_i ((12 * k41_5) + e), .ref 159, pw_i (pw_g gh41 142 (((12 * k41_5) + e).toNat)), .ref 141, pw_i 0, .ref 141]) rfl (fun _ => rfl) ?_
                            refine pw_ald2 I41 E (c := 143) (pc' := 143) rfl rfl rfl (by decide) rfl (by decide) (by omega) (by omega) rfl (fun hf61a hf61b => ?_)
                            obtain ⟨f62l, f62h, -⟩ := pw_obj (c := 125) I41 rfl
                            refine pw_call (m' := 211) (As := [.ref 141, pw_i (pw_g gh41 142 (((12 * k41_5) + e).toNat)), pw_i (pw_g gh41 143 (((12 * k41_5) + e).toNat))]) (rest := [pw_i 0, .ref 141]) (ls'' := [some (.ref 141), some (pw_i (pw_g gh41 142 (((12 * k41_5) + e).toNat))), some (pw_i (pw_g gh41 143 (((12 * k41_5) + e).toNat)))]) (Nat.le_trans (by decide) hd) E rfl (fun _ => pw_iV rfl rfl rfl rfl (pw_cellI f62h rfl)) (rfl : pm_ent 211 = some (3, 3, 12, 0, pmc_211)) rfl rfl (cm_211 (pw_dp hd (by decide)) I41 (pw_g gh41 142 (((12 * k41_5) + e).toNat)) (by omega) (by omega) (pw_g gh41 143 (((12 * k41_5) + e).toNat)) (by omega) (by omega)) ?_
                            rintro u64 v63 ⟨rfl, x65, rfl, hx65a, hx65b⟩
                            refine ⟨_, rfl, ?_⟩
                            show pw X d gh41 230 146 [some (.ref 141), some (pw_i b), some (pw_i e), some (pw_i z), some (pw_i wt), some (pw_i k41_5), some (pw_i ((12 * k41_5) + b)), some (pw_i ((12 * k41_5) + e))] [pw_i x65, pw_i 0, .ref 141] _
                            refine pw_ld E (pc' := 147) (st' := [.ref 141, pw_i x65, pw_i 0, .ref 141]) rfl (fun _ => rfl) ?_
                            refine pw_ld E (pc' := 148) (st' := [.ref 141, .ref 141, pw_i x65, pw_i 0, .ref 141]) rfl (fun _ => rfl) ?_
                            refine pw_getR (b := 158) I41 E (c := 125) (k := 22) (pc' := 151) rfl rfl rfl rfl rfl rfl rfl ?_
                            refine pw_ld E (pc' := 153) (st' := [pw_i ((12 * k41_5) + b), .ref 158, .ref 141, pw_i x65, pw_i 0, .ref 141]) rfl (fun _ => rfl) ?_
                            refine pw_ald2 I41 E (c := 142) (pc' := 154) rfl rfl rfl (by decide) rfl (by decide) (by omega) (by omega) rfl (fun hf66a hf66b => ?_)
                            refine pw_ld E (pc' := 155) (st' := [.ref 141, pw_i (pw_g gh41 142 (((12 * k41_5) + b).toNat)), .ref 141, pw_i x65, pw_i 0, .ref 141]) rfl (fun _ => rfl) ?_
                            refine pw_getR (b := 159) I41 E (c := 125) (k := 23) (pc' := 158) rfl rfl rfl rfl rfl rfl rfl ?_
                            refine pw_ld E (pc' := 160) (st' := [pw_i ((12 * k41_5) + b), .ref 159, pw_i (pw_g gh41 142 (((12 * k41_5) + b).toNat)), .ref 141, pw_i x65, pw_i 0, .ref 141]) rfl (fun _ => rfl) ?_
                            refine pw_ald2 I41 E (c := 143) (pc' := 161) rfl rfl rfl (by decide) rfl (by decide) (by omega) (by omega) rfl (fun hf67a hf67b => ?_)
                            obtain ⟨f68l, f68h, -⟩ := pw_obj (c := 125) I41 rfl
                            refine pw_call (m' := 211) (As := [.ref 141, pw_i (pw_g gh41 142 (((12 * k41_5) + b).toNat)), pw_i (pw_g gh41 143 (((12 * k41_5) + b).toNat))]) (rest := [pw_i x65, pw_i 0, .ref 141]) (ls'' := [some (.ref 141), some (pw_i (pw_g gh41 142 (((12 * k41_5) + b).toNat))), some (pw_i (pw_g gh41 143 (((12 * k41_5) + b).toNat)))]) (Nat.le_trans (by decide) hd) E rfl (fun _ => pw_iV rfl rfl rfl rfl (pw_cellI f68h rfl)) (rfl : pm_ent 211 = some (3, 3, 12, 0, pmc_211)) rfl rfl (cm_211 (pw_dp hd (by decide)) I41 (pw_g gh41 142 (((12 * k41_5) + b).toNat)) (by omega) (by omega) (pw_g gh41 143 (((12 * k41_5) + b).toNat)) (by omega) (by omega)) ?_
                            rintro u70 v69 ⟨rfl, x71, rfl, hx71a, hx71b⟩
                            refine ⟨_, rfl, ?_⟩
                            show pw X d gh41 230 164 [some (.ref 141), some (pw_i b), some (pw_i e), some (pw_i z), some (pw_i wt), some (pw_i k41_5), some (pw_i ((12 * k41_5) + b)), some (pw_i ((12 * k41_5) + e))] [pw_i x71, pw_i x65, pw_i 0, .ref 141] _
                            refine pw_sub E (pc' := 165) rfl rfl ?_
                            refine pw_nm (fun x72 hx72a hx72b => ?_)
                            refine pw_i2l E (pc' := 166) rfl rfl (by omega) (by omega) ?_
                            obtain ⟨f73l, f73h, -⟩ := pw_obj (c := 125) I41 rfl
                            refine pw_call (m' := 220) (As := [.ref 141, pw_i 0, .long (Int64.ofInt x72)]) (rest := []) (ls'' := [some (.ref 141), some (pw_i 0), some (.long (Int64.ofInt x72)), none]) (Nat.le_trans (by decide) hd) E rfl (fun _ => pw_iV rfl rfl rfl rfl (pw_cellI f73h rfl)) (rfl : pm_ent 220 = some (3, 4, 12, 4, pmc_220)) rfl rfl (cm_220 (pw_dp hd (by decide)) I41 (0) (by omega) (by omega) (Int64.ofInt x72) (by omega) (by omega) (by omega)) ?_
                            rintro h74 v75 ⟨h74I, h74E, hq76, rfl⟩
                            refine ⟨_, rfl, ?_⟩
                            have h74F := E41.tr (h74E.wk (W' := [125]) (by first | rfl | simp))
                            show pw X d h74 230 169 [some (.ref 141), some (pw_i b), some (pw_i e), some (pw_i z), some (pw_i wt), some (pw_i k41_5), some (pw_i ((12 * k41_5) + b)), some (pw_i ((12 * k41_5) + e))] [] _
                            refine pw_inc E (pc' := 172) (ls' := [some (.ref 141), some (pw_i b), some (pw_i e), some (pw_i z), some (pw_i wt), some (pw_i (k41_5 + 1)), some (pw_i ((12 * k41_5) + b)), some (pw_i ((12 * k41_5) + e))]) rfl rfl rfl rfl ?_
                            refine pw_goto E (pc' := 41) rfl (by decide) ?_
                            exact ih41 _ (by omega) (k41_5 + 1) (some (pw_i ((12 * k41_5) + b))) (some (pw_i ((12 * k41_5) + e))) h74 h74I h74F (by omega) (by omega) (by omega) (by omega) (by omega) rfl
                          · intro hc77
                            change ¬ (pw_g gh41 132 (k41_5.toNat) ≠ (0 : Int)) at hc77
                            refine pw_ld E (pc' := 124) (st' := [pw_i 1, .ref 141]) rfl (fun _ => rfl) ?_
                            refine pw_goto E (pc' := 128) rfl (by decide) ?_
                            refine pw_ld E (pc' := 129) (st' := [.ref 141, pw_i 1, .ref 141]) rfl (fun _ => rfl) ?_
                            refine pw_ld E (pc' := 130) (st' := [.ref 141, .ref 141, pw_i 1, .ref 141]) rfl (fun _ => rfl) ?_
                            refine pw_getR (b := 158) I41 E (c := 125) (k := 22) (pc' := 133) rfl rfl rfl rfl rfl rfl rfl ?_
                            refine pw_ld E (pc' := 135) (st' := [pw_i ((12 * k41_5) + e), .ref 158, .ref 141, pw_i 1, .ref 141]) rfl (fun _ => rfl) ?_
                            refine pw_ald2 I41 E (c := 142) (pc' := 136) rfl rfl rfl (by decide) rfl (by decide) (by omega) (by omega) rfl (fun hf78a hf78b => ?_)
                            refine pw_ld E (pc' := 137) (st' := [.ref 141, pw_i (pw_g gh41 142 (((12 * k41_5) + e).toNat)), .ref 141, pw_i 1, .ref 141]) rfl (fun _ => rfl) ?_
                            refine pw_getR (b := 159) I41 E (c := 125) (k := 23) (pc' := 140) rfl rfl rfl rfl rfl rfl rfl ?_
                            refine pw_ld E (pc' := 142) (st' := [pw_i ((12 * k41_5) + e), .ref 159, pw_i (pw_g gh41 142 (((12 * k41_5) + e).toNat)), .ref 141, pw_i 1, .ref 141]) rfl (fun _ => rfl) ?_
                            refine pw_ald2 I41 E (c := 143) (pc' := 143) rfl rfl rfl (by decide) rfl (by decide) (by omega) (by omega) rfl (fun hf79a hf79b => ?_)
                            obtain ⟨f80l, f80h, -⟩ := pw_obj (c := 125) I41 rfl
                            refine pw_call (m' := 211) (As := [.ref 141, pw_i (pw_g gh41 142 (((12 * k41_5) + e).toNat)), pw_i (pw_g gh41 143 (((12 * k41_5) + e).toNat))]) (rest := [pw_i 1, .ref 141]) (ls'' := [some (.ref 141), some (pw_i (pw_g gh41 142 (((12 * k41_5) + e).toNat))), some (pw_i (pw_g gh41 143 (((12 * k41_5) + e).toNat)))]) (Nat.le_trans (by decide) hd) E rfl (fun _ => pw_iV rfl rfl rfl rfl (pw_cellI f80h rfl)) (rfl : pm_ent 211 = some (3, 3, 12, 0, pmc_211)) rfl rfl (cm_211 (pw_dp hd (by decide)) I41 (pw_g gh41 142 (((12 * k41_5) + e).toNat)) (by omega) (by omega) (pw_g gh41 143 (((12 * k41_5) + e).toNat)) (by omega) (by omega)) ?_
                            rintro u82 v81 ⟨rfl, x83, rfl, hx83a, hx83b⟩
                            refine ⟨_, rfl, ?_⟩
                            show pw X d gh41 230 146 [some (.ref 141), some (pw_i b), some (pw_i e), some (pw_i z), some (pw_i wt), some (pw_i k41_5), some (pw_i ((12 * k41_5) + b)), some (pw_i ((12 * k41_5) + e))] [pw_i x83, pw_i 1, .ref 141] _
                            refine pw_ld E (pc' := 147) (st' := [.ref 141, pw_i x83, pw_i 1, .ref 141]) rfl (fun _ => rfl) ?_
                            refine pw_ld E (pc' := 148) (st' := [.ref 141, .ref 141, pw_i x83, pw_i 1, .ref 141]) rfl (fun _ => rfl) ?_
                            refine pw_getR (b := 158) I41 E (c := 125) (k := 22) (pc' := 151) rfl rfl rfl rfl rfl rfl rfl ?_
                            refine pw_ld E (pc' := 153) (st' := [pw_i ((12 * k41_5) + b), .ref 158, .ref 141, pw_i x83, pw_i 1, .ref 141]) rfl (fun _ => rfl) ?_
                            refine pw_ald2 I41 E (c := 142) (pc' := 154) rfl rfl rfl (by decide) rfl (by decide) (by omega) (by omega) rfl (fun hf84a hf84b => ?_)
                            refine pw_ld E (pc' := 155) (st' := [.ref 141, pw_i (pw_g gh41 142 (((12 * k41_5) + b).toNat)), .ref 141, pw_i x83, pw_i 1, .ref 141]) rfl (fun _ => rfl) ?_
                            refine pw_getR (b := 159) I41 E (c := 125) (k := 23) (pc' := 158) rfl rfl rfl rfl rfl rfl rfl ?_
                            refine pw_ld E (pc' := 160) (st' := [pw_i ((12 * k41_5) + b), .ref 159, pw_i (pw_g gh41 142 (((12 * k41_5) + b).toNat)), .ref 141, pw_i x83, pw_i 1, .ref 141]) rfl (fun _ => rfl) ?_
                            refine pw_ald2 I41 E (c := 143) (pc' := 161) rfl rfl rfl (by decide) rfl (by decide) (by omega) (by omega) rfl (fun hf85a hf85b => ?_)
                            obtain ⟨f86l, f86h, -⟩ := pw_obj (c := 125) I41 rfl
                            refine pw_call (m' := 211) (As := [.ref 141, pw_i (pw_g gh41 142 (((12 * k41_5) + b).toNat)), pw_i (pw_g gh41 143 (((12 * k41_5) + b).toNat))]) (rest := [pw_i x83, pw_i 1, .ref 141]) (ls'' := [some (.ref 141), some (pw_i (pw_g gh41 142 (((12 * k41_5) + b).toNat))), some (pw_i (pw_g gh41 143 (((12 * k41_5) + b).toNat)))]) (Nat.le_trans (by decide) hd) E rfl (fun _ => pw_iV rfl rfl rfl rfl (pw_cellI f86h rfl)) (rfl : pm_ent 211 = some (3, 3, 12, 0, pmc_211)) rfl rfl (cm_211 (pw_dp hd (by decide)) I41 (pw_g gh41 142 (((12 * k41_5) + b).toNat)) (by omega) (by omega) (pw_g gh41 143 (((12 * k41_5) + b).toNat)) (by omega) (by omega)) ?_
                            rintro u88 v87 ⟨rfl, x89, rfl, hx89a, hx89b⟩
                            refine ⟨_, rfl, ?_⟩
                            show pw X d gh41 230 164 [some (.ref 141), some (pw_i b), some (pw_i e), some (pw_i z), some (pw_i wt), some (pw_i k41_5), some (pw_i ((12 * k41_5) + b)), some (pw_i ((12 * k41_5) + e))] [pw_i x89, pw_i x83, pw_i 1, .ref 141] _
                            refine pw_sub E (pc' := 165) rfl rfl ?_
                            refine pw_nm (fun x90 hx90a hx90b => ?_)
                            refine pw_i2l E (pc' := 166) rfl rfl (by omega) (by omega) ?_
                            obtain ⟨f91l, f91h, -⟩ := pw_obj (c := 125) I41 rfl
                            refine pw_call (m' := 220) (As := [.ref 141, pw_i 1, .long (Int64.ofInt x90)]) (rest := []) (ls'' := [some (.ref 141), some (pw_i 1), some (.long (Int64.ofInt x90)), none]) (Nat.le_trans (by decide) hd) E rfl (fun _ => pw_iV rfl rfl rfl rfl (pw_cellI f91h rfl)) (rfl : pm_ent 220 = some (3, 4, 12, 4, pmc_220)) rfl rfl (cm_220 (pw_dp hd (by decide)) I41 (1) (by omega) (by omega) (Int64.ofInt x90) (by omega) (by omega) (by omega)) ?_
                            rintro h92 v93 ⟨h92I, h92E, hq94, rfl⟩
                            refine ⟨_, rfl, ?_⟩
                            have h92F := E41.tr (h92E.wk (W' := [125]) (by first | rfl | simp))
                            show pw X d h92 230 169 [some (.ref 141), some (pw_i b), some (pw_i e), some (pw_i z), some (pw_i wt), some (pw_i k41_5), some (pw_i ((12 * k41_5) + b)), some (pw_i ((12 * k41_5) + e))] [] _
                            refine pw_inc E (pc' := 172) (ls' := [some (.ref 141), some (pw_i b), some (pw_i e), some (pw_i z), some (pw_i wt), some (pw_i (k41_5 + 1)), some (pw_i ((12 * k41_5) + b)), some (pw_i ((12 * k41_5) + e))]) rfl rfl rfl rfl ?_
                            refine pw_goto E (pc' := 41) rfl (by decide) ?_
                            exact ih41 _ (by omega) (k41_5 + 1) (some (pw_i ((12 * k41_5) + b))) (some (pw_i ((12 * k41_5) + e))) h92 h92I h92F (by omega) (by omega) (by omega) (by omega) (by omega) rfl
                    · intro hc95
                      change ¬ (z = (0 : Int)) at hc95
                      refine pw_ld E (pc' := 81) (st' := [.ref 141]) rfl (fun _ => rfl) ?_
                      refine pw_getR (b := 151) I41 E (c := 125) (k := 14) (pc' := 84) rfl rfl rfl rfl rfl rfl rfl ?_
                      refine pw_ld E (pc' := 86) (st' := [pw_i k41_5, .ref 151]) rfl (fun _ => rfl) ?_
                      refine pw_ald2 I41 E (c := 135) (pc' := 87) rfl rfl rfl (by decide) rfl (by decide) (by omega) (by omega) rfl (fun hf96a hf96b => ?_)
                      refine pw_if E (pc' := 169) rfl (by decide) (by omega) (by omega) ?_ ?_
                      · intro hc97
                        change pw_g gh41 135 (k41_5.toNat) = (0 : Int) at hc97
                        refine pw_inc E (pc' := 172) (ls' := [some (.ref 141), some (pw_i b), some (pw_i e), some (pw_i z), some (pw_i wt), some (pw_i (k41_5 + 1)), some (pw_i ((12 * k41_5) + b)), some (pw_i ((12 * k41_5) + e))]) rfl rfl rfl rfl ?_
                        refine pw_goto E (pc' := 41) rfl (by decide) ?_
                        exact ih41 _ (by omega) (k41_5 + 1) (some (pw_i ((12 * k41_5) + b))) (some (pw_i ((12 * k41_5) + e))) gh41 I41 E41 (by omega) (by omega) (by omega) (by omega) (by omega) rfl
                      · intro hc98
                        change ¬ (pw_g gh41 135 (k41_5.toNat) = (0 : Int)) at hc98
                        refine pw_ld E (pc' := 91) (st' := [.ref 141]) rfl (fun _ => rfl) ?_
                        refine pw_getR (b := 157) I41 E (c := 125) (k := 21) (pc' := 94) rfl rfl rfl rfl rfl rfl rfl ?_
                        refine pw_ld E (pc' := 96) (st' := [pw_i ((12 * k41_5) + b), .ref 157]) rfl (fun _ => rfl) ?_
                        refine pw_ald2 I41 E (c := 141) (pc' := 97) rfl rfl rfl (by decide) rfl (by decide) (by omega) (by omega) rfl (fun hf99a hf99b => ?_)
                        refine pw_ld E (pc' := 98) (st' := [pw_i 1, pw_i (pw_g gh41 141 (((12 * k41_5) + b).toNat))]) rfl (fun _ => rfl) ?_
                        refine pw_if2 E (pc' := 169) rfl (by decide) (by omega) (by omega) (by decide) (by decide) ?_ ?_
                        · intro hc100
                          change pw_g gh41 141 (((12 * k41_5) + b).toNat) ≠ (1 : Int) at hc100
                          refine pw_inc E (pc' := 172) (ls' := [some (.ref 141), some (pw_i b), some (pw_i e), some (pw_i z), some (pw_i wt), some (pw_i (k41_5 + 1)), some (pw_i ((12 * k41_5) + b)), some (pw_i ((12 * k41_5) + e))]) rfl rfl rfl rfl ?_
                          refine pw_goto E (pc' := 41) rfl (by decide) ?_
                          exact ih41 _ (by omega) (k41_5 + 1) (some (pw_i ((12 * k41_5) + b))) (some (pw_i ((12 * k41_5) + e))) gh41 I41 E41 (by omega) (by omega) (by omega) (by omega) (by omega) rfl
                        · intro hc101
                          change ¬ (pw_g gh41 141 (((12 * k41_5) + b).toNat) ≠ (1 : Int)) at hc101
                          refine pw_ld E (pc' := 102) (st' := [.ref 141]) rfl (fun _ => rfl) ?_
                          refine pw_getR (b := 157) I41 E (c := 125) (k := 21) (pc' := 105) rfl rfl rfl rfl rfl rfl rfl ?_
                          refine pw_ld E (pc' := 107) (st' := [pw_i ((12 * k41_5) + e), .ref 157]) rfl (fun _ => rfl) ?_
                          refine pw_ald2 I41 E (c := 141) (pc' := 108) rfl rfl rfl (by decide) rfl (by decide) (by omega) (by omega) rfl (fun hf102a hf102b => ?_)
                          refine pw_ld E (pc' := 109) (st' := [pw_i 1, pw_i (pw_g gh41 141 (((12 * k41_5) + e).toNat))]) rfl (fun _ => rfl) ?_
                          refine pw_if2 E (pc' := 169) rfl (by decide) (by omega) (by omega) (by decide) (by decide) ?_ ?_
                          · intro hc103
                            change pw_g gh41 141 (((12 * k41_5) + e).toNat) ≠ (1 : Int) at hc103
                            refine pw_inc E (pc' := 172) (ls' := [some (.ref 141), some (pw_i b), some (pw_i e), some (pw_i z), some (pw_i wt), some (pw_i (k41_5 + 1)), some (pw_i ((12 * k41_5) + b)), some (pw_i ((12 * k41_5) + e))]) rfl rfl rfl rfl ?_
                            refine pw_goto E (pc' := 41) rfl (by decide) ?_
                            exact ih41 _ (by omega) (k41_5 + 1) (some (pw_i ((12 * k41_5) + b))) (some (pw_i ((12 * k41_5) + e))) gh41 I41 E41 (by omega) (by omega) (by omega) (by omega) (by omega) rfl
                          · intro hc104
                            change ¬ (pw_g gh41 141 (((12 * k41_5) + e).toNat) ≠ (1 : Int)) at hc104
                            refine pw_ld E (pc' := 113) (st' := [.ref 141]) rfl (fun _ => rfl) ?_
                            refine pw_ld E (pc' := 114) (st' := [.ref 141, .ref 141]) rfl (fun _ => rfl) ?_
                            refine pw_getR (b := 148) I41 E (c := 125) (k := 11) (pc' := 117) rfl rfl rfl rfl rfl rfl rfl ?_
                            refine pw_ld E (pc' := 119) (st' := [pw_i k41_5, .ref 148, .ref 141]) rfl (fun _ => rfl) ?_
                            refine pw_ald2 I41 E (c := 132) (pc' := 120) rfl rfl rfl (by decide) rfl (by decide) (by omega) (by omega) rfl (fun hf105a hf105b => ?_)
                            refine pw_if E (pc' := 127) rfl (by decide) (by omega) (by omega) ?_ ?_
                            · intro hc106
                              change pw_g gh41 132 (k41_5.toNat) ≠ (0 : Int) at hc106
                              refine pw_ld E (pc' := 128) (st' := [pw_i 0, .ref 141]) rfl (fun _ => rfl) ?_
                              refine pw_ld E (pc' := 129) (st' := [.ref 141, pw_i 0, .ref 141]) rfl (fun _ => rfl) ?_
                              refine pw_ld E (pc' := 130) (st' := [.ref 141, .ref 141, pw_i 0, .ref 141]) rfl (fun _ => rfl) ?_
                              refine pw_getR (b := 158) I41 E (c := 125) (k := 22) (pc' := 133) rfl rfl rfl rfl rfl rfl rfl ?_
                              refine pw_ld E (pc' := 135) (st' := [pw_i ((12 * k41_5) + e), .ref 158, .ref 141, pw_i 0, .ref 141]) rfl (fun _ => rfl) ?_
                              refine pw_ald2 I41 E (c := 142) (pc' := 136) rfl rfl rfl (by decide) rfl (by decide) (by omega) (by omega) rfl (fun hf107a hf107b => ?_)
                              refine pw_ld E (pc' := 137) (st' := [.ref 141, pw_i (pw_g gh41 142 (((12 * k41_5) + e).toNat)), .ref 141, pw_i 0, .ref 141]) rfl (fun _ => rfl) ?_
                              refine pw_getR (b := 159) I41 E (c := 125) (k := 23) (pc' := 140) rfl rfl rfl rfl rfl rfl rfl ?_
                              refine pw_ld E (pc' := 142) (st' := [pw_i ((12 * k41_5) + e), .ref 159, pw_i (pw_g gh41 142 (((12 * k41_5) + e).toNat)), .ref 141, pw_i 0, .ref 141]) rfl (fun _ => rfl) ?_
                              refine pw_ald2 I41 E (c := 143) (pc' := 143) rfl rfl rfl (by decide) rfl (by decide) (by omega) (by omega) rfl (fun hf108a hf108b => ?_)
                              obtain ⟨f109l, f109h, -⟩ := pw_obj (c := 125) I41 rfl
                              refine pw_call (m' := 211) (As := [.ref 141, pw_i (pw_g gh41 142 (((12 * k41_5) + e).toNat)), pw_i (pw_g gh41 143 (((12 * k41_5) + e).toNat))]) (rest := [pw_i 0, .ref 141]) (ls'' := [some (.ref 141), some (pw_i (pw_g gh41 142 (((12 * k41_5) + e).toNat))), some (pw_i (pw_g gh41 143 (((12 * k41_5) + e).toNat)))]) (Nat.le_trans (by decide) hd) E rfl (fun _ => pw_iV rfl rfl rfl rfl (pw_cellI f109h rfl)) (rfl : pm_ent 211 = some (3, 3, 12, 0, pmc_211)) rfl rfl (cm_211 (pw_dp hd (by decide)) I41 (pw_g gh41 142 (((12 * k41_5) + e).toNat)) (by omega) (by omega) (pw_g gh41 143 (((12 * k41_5) + e).toNat)) (by omega) (by omega)) ?_
                              rintro u111 v110 ⟨rfl, x112, rfl, hx112a, hx112b⟩
                              refine ⟨_, rfl, ?_⟩
                              show pw X d gh41 230 146 [some (.ref 141), some (pw_i b), some (pw_i e), some (pw_i z), some (pw_i wt), some (pw_i k41_5), some (pw_i ((12 * k41_5) + b)), some (pw_i ((12 * k41_5) + e))] [pw_i x112, pw_i 0, .ref 141] _
                              refine pw_ld E (pc' := 147) (st' := [.ref 141, pw_i x112, pw_i 0, .ref 141]) rfl (fun _ => rfl) ?_
                              refine pw_ld E (pc' := 148) (st' := [.ref 141, .ref 141, pw_i x112, pw_i 0, .ref 141]) rfl (fun _ => rfl) ?_
                              refine pw_getR (b := 158) I41 E (c := 125) (k := 22) (pc' := 151) rfl rfl rfl rfl rfl rfl rfl ?_
                              refine pw_ld E (pc' := 153) (st' := [pw_i ((12 * k41_5) + b), .ref 158, .ref 141, pw_i x112, pw_i 0, .ref 141]) rfl (fun _ => rfl) ?_
                              refine pw_ald2 I41 E (c := 142) (pc' := 154) rfl rfl rfl (by decide) rfl (by decide) (by omega) (by omega) rfl (fun hf113a hf113b => ?_)
                              refine pw_ld E (pc' := 155) (st' := [.ref 141, pw_i (pw_g gh41 142 (((12 * k41_5) + b).toNat)), .ref 141, pw_i x112, pw_i 0, .ref 141]) rfl (fun _ => rfl) ?_
                              refine pw_getR (b := 159) I41 E (c := 125) (k := 23) (pc' := 158) rfl rfl rfl rfl rfl rfl rfl ?_
                              refine pw_ld E (pc' := 160) (st' := [pw_i ((12 * k41_5) + b), .ref 159, pw_i (pw_g gh41 142 (((12 * k41_5) + b).toNat)), .ref 141, pw_i x112, pw_i 0, .ref 141]) rfl (fun _ => rfl) ?_
                              refine pw_ald2 I41 E (c := 143) (pc' := 161) rfl rfl rfl (by decide) rfl (by decide) (by omega) (by omega) rfl (fun hf114a hf114b => ?_)
                              obtain ⟨f115l, f115h, -⟩ := pw_obj (c := 125) I41 rfl
                              refine pw_call (m' := 211) (As := [.ref 141, pw_i (pw_g gh41 142 (((12 * k41_5) + b).toNat)), pw_i (pw_g gh41 143 (((12 * k41_5) + b).toNat))]) (rest := [pw_i x112, pw_i 0, .ref 141]) (ls'' := [some (.ref 141), some (pw_i (pw_g gh41 142 (((12 * k41_5) + b).toNat))), some (pw_i (pw_g gh41 143 (((12 * k41_5) + b).toNat)))]) (Nat.le_trans (by decide) hd) E rfl (fun _ => pw_iV rfl rfl rfl rfl (pw_cellI f115h rfl)) (rfl : pm_ent 211 = some (3, 3, 12, 0, pmc_211)) rfl rfl (cm_211 (pw_dp hd (by decide)) I41 (pw_g gh41 142 (((12 * k41_5) + b).toNat)) (by omega) (by omega) (pw_g gh41 143 (((12 * k41_5) + b).toNat)) (by omega) (by omega)) ?_
                              rintro u117 v116 ⟨rfl, x118, rfl, hx118a, hx118b⟩
                              refine ⟨_, rfl, ?_⟩
                              show pw X d gh41 230 164 [some (.ref 141), some (pw_i b), some (pw_i e), some (pw_i z), some (pw_i wt), some (pw_i k41_5), some (pw_i ((12 * k41_5) + b)), some (pw_i ((12 * k41_5) + e))] [pw_i x118, pw_i x112, pw_i 0, .ref 141] _
                              refine pw_sub E (pc' := 165) rfl rfl ?_
                              refine pw_nm (fun x119 hx119a hx119b => ?_)
                              refine pw_i2l E (pc' := 166) rfl rfl (by omega) (by omega) ?_
                              obtain ⟨f120l, f120h, -⟩ := pw_obj (c := 125) I41 rfl
                              refine pw_call (m' := 220) (As := [.ref 141, pw_i 0, .long (Int64.ofInt x119)]) (rest := []) (ls'' := [some (.ref 141), some (pw_i 0), some (.long (Int64.ofInt x119)), none]) (Nat.le_trans (by decide) hd) E rfl (fun _ => pw_iV rfl rfl rfl rfl (pw_cellI f120h rfl)) (rfl : pm_ent 220 = some (3, 4, 12, 4, pmc_220)) rfl rfl (cm_220 (pw_dp hd (by decide)) I41 (0) (by omega) (by omega) (Int64.ofInt x119) (by omega) (by omega) (by omega)) ?_
                              rintro h121 v122 ⟨h121I, h121E, hq123, rfl⟩
                              refine ⟨_, rfl, ?_⟩
                              have h121F := E41.tr (h121E.wk (W' := [125]) (by first | rfl | simp))
                              show pw X d h121 230 169 [some (.ref 141), some (pw_i b), some (pw_i e), some (pw_i z), some (pw_i wt), some (pw_i k41_5), some (pw_i ((12 * k41_5) + b)), some (pw_i ((12 * k41_5) + e))] [] _
                              refine pw_inc E (pc' := 172) (ls' := [some (.ref 141), some (pw_i b), some (pw_i e), some (pw_i z), some (pw_i wt), some (pw_i (k41_5 + 1)), some (pw_i ((12 * k41_5) + b)), some (pw_i ((12 * k41_5) + e))]) rfl rfl rfl rfl ?_
                              refine pw_goto E (pc' := 41) rfl (by decide) ?_
                              exact ih41 _ (by omega) (k41_5 + 1) (some (pw_i ((12 * k41_5) + b))) (some (pw_i ((12 * k41_5) + e))) h121 h121I h121F (by omega) (by omega) (by omega) (by omega) (by omega) rfl
                            · intro hc124
                              change ¬ (pw_g gh41 132 (k41_5.toNat) ≠ (0 : Int)) at hc124
                              refine pw_ld E (pc' := 124) (st' := [pw_i 1, .ref 141]) rfl (fun _ => rfl) ?_
                              refine pw_goto E (pc' := 128) rfl (by decide) ?_
                              refine pw_ld E (pc' := 129) (st' := [.ref 141, pw_i 1, .ref 141]) rfl (fun _ => rfl) ?_
                              refine pw_ld E (pc' := 130) (st' := [.ref 141, .ref 141, pw_i 1, .ref 141]) rfl (fun _ => rfl) ?_
                              refine pw_getR (b := 158) I41 E (c := 125) (k := 22) (pc' := 133) rfl rfl rfl rfl rfl rfl rfl ?_
                              refine pw_ld E (pc' := 135) (st' := [pw_i ((12 * k41_5) + e), .ref 158, .ref 141, pw_i 1, .ref 141]) rfl (fun _ => rfl) ?_
                              refine pw_ald2 I41 E (c := 142) (pc' := 136) rfl rfl rfl (by decide) rfl (by decide) (by omega) (by omega) rfl (fun hf125a hf125b => ?_)
                              refine pw_ld E (pc' := 137) (st' := [.ref 141, pw_i (pw_g gh41 142 (((12 * k41_5) + e).toNat)), .ref 141, pw_i 1, .ref 141]) rfl (fun _ => rfl) ?_
                              refine pw_getR (b := 159) I41 E (c := 125) (k := 23) (pc' := 140) rfl rfl rfl rfl rfl rfl rfl ?_
                              refine pw_ld E (pc' := 142) (st' := [pw_i ((12 * k41_5) + e), .ref 159, pw_i (pw_g gh41 142 (((12 * k41_5) + e).toNat)), .ref 141, pw_i 1, .ref 141]) rfl (fun _ => rfl) ?_
                              refine pw_ald2 I41 E (c := 143) (pc' := 143) rfl rfl rfl (by decide) rfl (by decide) (by omega) (by omega) rfl (fun hf126a hf126b => ?_)
                              obtain ⟨f127l, f127h, -⟩ := pw_obj (c := 125) I41 rfl
                              refine pw_call (m' := 211) (As := [.ref 141, pw_i (pw_g gh41 142 (((12 * k41_5) + e).toNat)), pw_i (pw_g gh41 143 (((12 * k41_5) + e).toNat))]) (rest := [pw_i 1, .ref 141]) (ls'' := [some (.ref 141), some (pw_i (pw_g gh41 142 (((12 * k41_5) + e).toNat))), some (pw_i (pw_g gh41 143 (((12 * k41_5) + e).toNat)))]) (Nat.le_trans (by decide) hd) E rfl (fun _ => pw_iV rfl rfl rfl rfl (pw_cellI f127h rfl)) (rfl : pm_ent 211 = some (3, 3, 12, 0, pmc_211)) rfl rfl (cm_211 (pw_dp hd (by decide)) I41 (pw_g gh41 142 (((12 * k41_5) + e).toNat)) (by omega) (by omega) (pw_g gh41 143 (((12 * k41_5) + e).toNat)) (by omega) (by omega)) ?_
                              rintro u129 v128 ⟨rfl, x130, rfl, hx130a, hx130b⟩
                              refine ⟨_, rfl, ?_⟩
                              show pw X d gh41 230 146 [some (.ref 141), some (pw_i b), some (pw_i e), some (pw_i z), some (pw_i wt), some (pw_i k41_5), some (pw_i ((12 * k41_5) + b)), some (pw_i ((12 * k41_5) + e))] [pw_i x130, pw_i 1, .ref 141] _
                              refine pw_ld E (pc' := 147) (st' := [.ref 141, pw_i x130, pw_i 1, .ref 141]) rfl (fun _ => rfl) ?_
                              refine pw_ld E (pc' := 148) (st' := [.ref 141, .ref 141, pw_i x130, pw_i 1, .ref 141]) rfl (fun _ => rfl) ?_
                              refine pw_getR (b := 158) I41 E (c := 125) (k := 22) (pc' := 151) rfl rfl rfl rfl rfl rfl rfl ?_
                              refine pw_ld E (pc' := 153) (st' := [pw_i ((12 * k41_5) + b), .ref 158, .ref 141, pw_i x130, pw_i 1, .ref 141]) rfl (fun _ => rfl) ?_
                              refine pw_ald2 I41 E (c := 142) (pc' := 154) rfl rfl rfl (by decide) rfl (by decide) (by omega) (by omega) rfl (fun hf131a hf131b => ?_)
                              refine pw_ld E (pc' := 155) (st' := [.ref 141, pw_i (pw_g gh41 142 (((12 * k41_5) + b).toNat)), .ref 141, pw_i x130, pw_i 1, .ref 141]) rfl (fun _ => rfl) ?_
                              refine pw_getR (b := 159) I41 E (c := 125) (k := 23) (pc' := 158) rfl rfl rfl rfl rfl rfl rfl ?_
                              refine pw_ld E (pc' := 160) (st' := [pw_i ((12 * k41_5) + b), .ref 159, pw_i (pw_g gh41 142 (((12 * k41_5) + b).toNat)), .ref 141, pw_i x130, pw_i 1, .ref 141]) rfl (fun _ => rfl) ?_
                              refine pw_ald2 I41 E (c := 143) (pc' := 161) rfl rfl rfl (by decide) rfl (by decide) (by omega) (by omega) rfl (fun hf132a hf132b => ?_)
                              obtain ⟨f133l, f133h, -⟩ := pw_obj (c := 125) I41 rfl
                              refine pw_call (m' := 211) (As := [.ref 141, pw_i (pw_g gh41 142 (((12 * k41_5) + b).toNat)), pw_i (pw_g gh41 143 (((12 * k41_5) + b).toNat))]) (rest := [pw_i x130, pw_i 1, .ref 141]) (ls'' := [some (.ref 141), some (pw_i (pw_g gh41 142 (((12 * k41_5) + b).toNat))), some (pw_i (pw_g gh41 143 (((12 * k41_5) + b).toNat)))]) (Nat.le_trans (by decide) hd) E rfl (fun _ => pw_iV rfl rfl rfl rfl (pw_cellI f133h rfl)) (rfl : pm_ent 211 = some (3, 3, 12, 0, pmc_211)) rfl rfl (cm_211 (pw_dp hd (by decide)) I41 (pw_g gh41 142 (((12 * k41_5) + b).toNat)) (by omega) (by omega) (pw_g gh41 143 (((12 * k41_5) + b).toNat)) (by omega) (by omega)) ?_
                              rintro u135 v134 ⟨rfl, x136, rfl, hx136a, hx136b⟩
                              refine ⟨_, rfl, ?_⟩
                              show pw X d gh41 230 164 [some (.ref 141), some (pw_i b), some (pw_i e), some (pw_i z), some (pw_i wt), some (pw_i k41_5), some (pw_i ((12 * k41_5) + b)), some (pw_i ((12 * k41_5) + e))] [pw_i x136, pw_i x130, pw_i 1, .ref 141] _
                              refine pw_sub E (pc' := 165) rfl rfl ?_
                              refine pw_nm (fun x137 hx137a hx137b => ?_)
                              refine pw_i2l E (pc' := 166) rfl rfl (by omega) (by omega) ?_
                              obtain ⟨f138l, f138h, -⟩ := pw_obj (c := 125) I41 rfl
                              refine pw_call (m' := 220) (As := [.ref 141, pw_i 1, .long (Int64.ofInt x137)]) (rest := []) (ls'' := [some (.ref 141), some (pw_i 1), some (.long (Int64.ofInt x137)), none]) (Nat.le_trans (by decide) hd) E rfl (fun _ => pw_iV rfl rfl rfl rfl (pw_cellI f138h rfl)) (rfl : pm_ent 220 = some (3, 4, 12, 4, pmc_220)) rfl rfl (cm_220 (pw_dp hd (by decide)) I41 (1) (by omega) (by omega) (Int64.ofInt x137) (by omega) (by omega) (by omega)) ?_
                              rintro h139 v140 ⟨h139I, h139E, hq141, rfl⟩
                              refine ⟨_, rfl, ?_⟩
                              have h139F := E41.tr (h139E.wk (W' := [125]) (by first | rfl | simp))
                              show pw X d h139 230 169 [some (.ref 141), some (pw_i b), some (pw_i e), some (pw_i z), some (pw_i wt), some (pw_i k41_5), some (pw_i ((12 * k41_5) + b)), some (pw_i ((12 * k41_5) + e))] [] _
                              refine pw_inc E (pc' := 172) (ls' := [some (.ref 141), some (pw_i b), some (pw_i e), some (pw_i z), some (pw_i wt), some (pw_i (k41_5 + 1)), some (pw_i ((12 * k41_5) + b)), some (pw_i ((12 * k41_5) + e))]) rfl rfl rfl rfl ?_
                              refine pw_goto E (pc' := 41) rfl (by decide) ?_
                              exact ih41 _ (by omega) (k41_5 + 1) (some (pw_i ((12 * k41_5) + b))) (some (pw_i ((12 * k41_5) + e))) h139 h139I h139F (by omega) (by omega) (by omega) (by omega) (by omega) rfl
            exact L41 _ (0) (none) (none) h18 h18I h18F (by omega) (by omega) (by omega) (by omega) (by omega) rfl
          · intro hc142
            change ¬ (pw_g h13 125 0 ≤ (0 : Int)) at hc142
            exfalso; omega
      · skip
        refine pw_if E (pc' := 21) rfl (by decide) (by omega) (by omega) ?_ ?_
        · intro hc144
          change x9 = (0 : Int) at hc144
          refine pw_ld E (pc' := 22) (st' := [pw_i 1, .ref 141]) rfl (fun _ => rfl) ?_
          refine pw_putI I E (c := 125) (k := 0) (pc' := 25) rfl rfl rfl rfl (by omega) (by omega) (by omega) (by omega) rfl rfl ?_
          intro h145I h145E
          generalize h145w : pw_w h 125 0 (pw_i 1) = h145 at h145I h145E ⊢
          have h145F := E0.tr (h145E.wk (W' := [125]) (by first | rfl | simp))
          refine pw_ld E (pc' := 26) (st' := [.ref 141]) rfl (fun _ => rfl) ?_
          have he147 : pw_g h145 125 0 = 1 := by rw [← h145w]; exact pw_g_eq (c := 125) (k := 0) I rfl rfl (by omega) (by omega)
          refine pw_getI2 h145I E (c := 125) (k := 0) (pc' := 29) rfl rfl rfl rfl rfl rfl (fun hf146a hf146b => ?_)
          refine pw_if E (pc' := 34) rfl (by decide) (by omega) (by omega) ?_ ?_
          · intro hc148
            change pw_g h145 125 0 ≤ (0 : Int) at hc148
            exfalso; omega
          · intro hc149
            change ¬ (pw_g h145 125 0 ≤ (0 : Int)) at hc149
            refine pw_ld E (pc' := 33) (st' := [.long (Int64.ofInt 0)]) rfl (fun _ => rfl) ?_
            refine pw_lret E rfl ?_
            exact ⟨h145I, h145F, ⟨_, rfl⟩⟩
        · intro hc150
          change ¬ (x9 = (0 : Int)) at hc150
          exfalso; omega
  · skip
    refine pw_if E (pc' := 21) rfl (by decide) (by omega) (by omega) ?_ ?_
    · intro hc152
      change x3 = (0 : Int) at hc152
      refine pw_ld E (pc' := 22) (st' := [pw_i 1, .ref 141]) rfl (fun _ => rfl) ?_
      refine pw_putI I E (c := 125) (k := 0) (pc' := 25) rfl rfl rfl rfl (by omega) (by omega) (by omega) (by omega) rfl rfl ?_
      intro h153I h153E
      generalize h153w : pw_w h 125 0 (pw_i 1) = h153 at h153I h153E ⊢
      have h153F := E0.tr (h153E.wk (W' := [125]) (by first | rfl | simp))
      refine pw_ld E (pc' := 26) (st' := [.ref 141]) rfl (fun _ => rfl) ?_
      have he155 : pw_g h153 125 0 = 1 := by rw [← h153w]; exact pw_g_eq (c := 125) (k := 0) I rfl rfl (by omega) (by omega)
      refine pw_getI2 h153I E (c := 125) (k := 0) (pc' := 29) rfl rfl rfl rfl rfl rfl (fun hf154a hf154b => ?_)
      refine pw_if E (pc' := 34) rfl (by decide) (by omega) (by omega) ?_ ?_
      · intro hc156
        change pw_g h153 125 0 ≤ (0 : Int) at hc156
        exfalso; omega
      · intro hc157
        change ¬ (pw_g h153 125 0 ≤ (0 : Int)) at hc157
        refine pw_ld E (pc' := 33) (st' := [.long (Int64.ofInt 0)]) rfl (fun _ => rfl) ?_
        refine pw_lret E rfl ?_
        exact ⟨h153I, h153F, ⟨_, rfl⟩⟩
    · intro hc158
      change ¬ (x3 = (0 : Int)) at hc158
      exfalso; omega
set_option maxHeartbeats 4000000 in
theorem cm_234 {X : List (Nat × List Value)} {d : Nat} {h : pm_H} (hd : 4 ≤ d) (I : pw_I h) (b : Int) (hb1 : (-2147483648) ≤ b) (hb2 : b ≤ 2147483647) (e : Int) (he1 : (-2147483648) ≤ e) (he2 : e ≤ 2147483647) (wt : Int) (hwt1 : (-2147483648) ≤ wt) (hwt2 : wt ≤ 2147483647) : pw X d h 234 0 [some (.ref 141), some (pw_i b), some (pw_i e), some (pw_i wt), none] [] (fun h' v => pw_I h' ∧ pw_E [125] h h' ∧ ∃ w : Int64, v = .inl (some (.long w))) := by
  have E : pm_ent 234 = some (4, 5, 12, 2, pmc_234) := rfl
  have E0 : pw_E [125] h h := pw_E.rf _ _
  refine pw_ld E (pc' := 1) (st' := [.ref 141]) rfl (fun _ => rfl) ?_
  refine pw_ld E (pc' := 2) (st' := [pw_i b, .ref 141]) rfl (fun _ => rfl) ?_
  refine pw_ld E (pc' := 3) (st' := [pw_i e, pw_i b, .ref 141]) rfl (fun _ => rfl) ?_
  refine pw_call (m' := 213) (As := [pw_i b, pw_i e]) (rest := [.ref 141]) (ls'' := [some (pw_i b), some (pw_i e)]) (Nat.le_trans (by decide) hd) E rfl (fun _ => pw_iS rfl rfl rfl) (rfl : pm_ent 213 = some (2, 2, 12, 1, pmc_213)) rfl rfl (cm_213 (pw_dp hd (by decide)) I (b) (by omega) (by omega) (e) (by omega) (by omega)) ?_
  rintro u2 v1 ⟨rfl, x3, rfl, hx3a, hx3b, hx3r⟩
  refine ⟨_, rfl, ?_⟩
  show pw X d h 234 6 [some (.ref 141), some (pw_i b), some (pw_i e), some (pw_i wt), none] [pw_i x3, .ref 141] _
  change (x3 = 1 ∧ 0 ≤ b ∧ b ≤ 11 ∧ 0 ≤ e ∧ e ≤ 11) ∨ x3 = 0 at hx3r
  rcases (by omega : x3 = 1 ∨ x3 = 0) with hb4 | hb4
  · skip
    refine pw_if E (pc' := 20) rfl (by decide) (by omega) (by omega) ?_ ?_
    · intro hc5
      change x3 = (0 : Int) at hc5
      exfalso; omega
    · intro hc6
      change ¬ (x3 = (0 : Int)) at hc6
      refine pw_ld E (pc' := 10) (st' := [pw_i wt, .ref 141]) rfl (fun _ => rfl) ?_
      refine pw_call (m' := 217) (As := [pw_i wt]) (rest := [.ref 141]) (ls'' := [some (pw_i wt)]) (Nat.le_trans (by decide) hd) E rfl (fun _ => pw_iS rfl rfl rfl) (rfl : pm_ent 217 = some (1, 1, 12, 1, pmc_217)) rfl rfl (cm_217 (pw_dp hd (by decide)) I (wt) (by omega) (by omega)) ?_
      rintro u8 v7 ⟨rfl, x9, rfl, hx9a, hx9b, hx9r⟩
      refine ⟨_, rfl, ?_⟩
      show pw X d h 234 13 [some (.ref 141), some (pw_i b), some (pw_i e), some (pw_i wt), none] [pw_i x9, .ref 141] _
      change (x9 = 1 ∧ 0 ≤ wt ∧ wt ≤ 1) ∨ (x9 = 0 ∧ ¬ (0 ≤ wt ∧ wt ≤ 1)) at hx9r
      rcases (by omega : x9 = 1 ∨ x9 = 0) with hb10 | hb10
      · skip
        refine pw_if E (pc' := 20) rfl (by decide) (by omega) (by omega) ?_ ?_
        · intro hc11
          change x9 = (0 : Int) at hc11
          exfalso; omega
        · intro hc12
          change ¬ (x9 = (0 : Int)) at hc12
          refine pw_ld E (pc' := 17) (st' := [pw_i 0, .ref 141]) rfl (fun _ => rfl) ?_
          refine pw_goto E (pc' := 21) rfl (by decide) ?_
          refine pw_putI I E (c := 125) (k := 0) (pc' := 24) rfl rfl rfl rfl (by omega) (by omega) (by omega) (by omega) rfl rfl ?_
          intro h13I h13E
          generalize h13w : pw_w h 125 0 (pw_i 0) = h13 at h13I h13E ⊢
          have h13F := E0.tr (h13E.wk (W' := [125]) (by first | rfl | simp))
          refine pw_ld E (pc' := 25) (st' := [.ref 141]) rfl (fun _ => rfl) ?_
          have he15 : pw_g h13 125 0 = 0 := by rw [← h13w]; exact pw_g_eq (c := 125) (k := 0) I rfl rfl (by omega) (by omega)
          refine pw_getI2 h13I E (c := 125) (k := 0) (pc' := 28) rfl rfl rfl rfl rfl rfl (fun hf14a hf14b => ?_)
          refine pw_if E (pc' := 33) rfl (by decide) (by omega) (by omega) ?_ ?_
          · intro hc16
            change pw_g h13 125 0 ≤ (0 : Int) at hc16
            refine pw_ld E (pc' := 34) (st' := [.ref 141]) rfl (fun _ => rfl) ?_
            obtain ⟨f17l, f17h, -⟩ := pw_obj (c := 125) h13I rfl
            refine pw_call (m' := 219) (As := [.ref 141]) (rest := []) (ls'' := [some (.ref 141)]) (Nat.le_trans (by decide) hd) E rfl (fun _ => pw_iV rfl rfl rfl rfl (pw_cellI f17h rfl)) (rfl : pm_ent 219 = some (1, 1, 12, 4, pmc_219)) rfl rfl (cm_219 (pw_dp hd (by decide)) h13I ) ?_
            rintro h18 v19 ⟨h18I, h18E, hq20, rfl⟩
            refine ⟨_, rfl, ?_⟩
            have h18F := h13F.tr (h18E.wk (W' := [125]) (by first | rfl | simp))
            show pw X d h18 234 37 [some (.ref 141), some (pw_i b), some (pw_i e), some (pw_i wt), none] [] _
            refine pw_ld E (pc' := 38) (st' := [pw_i 0]) rfl (fun _ => rfl) ?_
            refine pw_ist E (pc' := 40) (ls' := [some (.ref 141), some (pw_i b), some (pw_i e), some (pw_i wt), some (pw_i 0)]) rfl rfl rfl rfl ?_
            have L40 : ∀ (n40 : Nat) (k40_4 : Int) (gh40 : pm_H), pw_I gh40 → pw_E [125] h gh40 → 0 ≤ k40_4 → k40_4 ≤ 24 → pw_gm gh40 125 27 + pw_gm gh40 125 29 ≤ k40_4 → 0 ≤ pw_gm gh40 125 27 → 0 ≤ pw_gm gh40 125 29 → (24 - k40_4).toNat = n40 → pw X d gh40 234 40 [some (.ref 141), some (pw_i b), some (pw_i e), some (pw_i wt), some (pw_i k40_4)] [] (fun h' v => pw_I h' ∧ pw_E [125] h h' ∧ ∃ w : Int64, v = .inl (some (.long w))) := by
              intro n40
              induction n40 using Nat.strongRecOn with
              | ind n40 ih40 =>
                intro k40_4 gh40 I40 E40 k40_4a k40_4b hx40_0 hx40_1 hx40_2 hm40
                refine pw_ld E (pc' := 42) (st' := [pw_i k40_4]) rfl (fun _ => rfl) ?_
                refine pw_bip E (pc' := 44) rfl rfl (by decide) ?_
                refine pw_if2 E (pc' := 108) rfl (by decide) (by omega) (by omega) (by decide) (by decide) ?_ ?_
                · intro hc21
                  change (24 : Int) ≤ k40_4 at hc21
                  refine pw_ld E (pc' := 109) (st' := [.ref 141]) rfl (fun _ => rfl) ?_
                  refine pw_ld E (pc' := 110) (st' := [.ref 141, .ref 141]) rfl (fun _ => rfl) ?_
                  obtain ⟨f22l, f22h, -⟩ := pw_obj (c := 125) I40 rfl
                  refine pw_call (m' := 221) (As := [.ref 141]) (rest := [.ref 141]) (ls'' := [some (.ref 141)]) (Nat.le_trans (by decide) hd) E rfl (fun _ => pw_iV rfl rfl rfl rfl (pw_cellI f22h rfl)) (rfl : pm_ent 221 = some (1, 1, 12, 1, pmc_221)) rfl rfl (cm_221 (pw_dp hd (by decide)) I40 ) ?_
                  rintro h23 v24 ⟨h23I, h23E, x25, rfl, hx25a, hx25b, hx25r⟩
                  refine ⟨_, rfl, ?_⟩
                  have h23F := E40.tr (h23E.wk (W' := [125]) (by first | rfl | simp))
                  show pw X d h23 234 113 [some (.ref 141), some (pw_i b), some (pw_i e), some (pw_i wt), some (pw_i k40_4)] [pw_i x25, .ref 141] _
                  change (x25 = 1 ∧ 1 ≤ pw_gm h23 125 25 ∧ pw_gm h23 125 25 ≤ 576) ∨ x25 = 0 at hx25r
                  rcases (by omega : x25 = 1 ∨ x25 = 0) with hb26 | hb26
                  · skip
                    refine pw_if E (pc' := 120) rfl (by decide) (by omega) (by omega) ?_ ?_
                    · intro hc27
                      change x25 = (0 : Int) at hc27
                      exfalso; omega
                    · intro hc28
                      change ¬ (x25 = (0 : Int)) at hc28
                      refine pw_ld E (pc' := 117) (st' := [pw_i 0, .ref 141]) rfl (fun _ => rfl) ?_
                      refine pw_goto E (pc' := 121) rfl (by decide) ?_
                      refine pw_putI h23I E (c := 125) (k := 0) (pc' := 124) rfl rfl rfl rfl (by omega) (by omega) (by omega) (by omega) rfl rfl ?_
                      intro h29I h29E
                      generalize h29w : pw_w h23 125 0 (pw_i 0) = h29 at h29I h29E ⊢
                      have h29F := h23F.tr (h29E.wk (W' := [125]) (by first | rfl | simp))
                      refine pw_ld E (pc' := 125) (st' := [.ref 141]) rfl (fun _ => rfl) ?_
                      have he31 : pw_g h29 125 0 = 0 := by rw [← h29w]; exact pw_g_eq (c := 125) (k := 0) h23I rfl rfl (by omega) (by omega)
                      refine pw_getI2 h29I E (c := 125) (k := 0) (pc' := 128) rfl rfl rfl rfl rfl rfl (fun hf30a hf30b => ?_)
                      refine pw_if E (pc' := 135) rfl (by decide) (by omega) (by omega) ?_ ?_
                      · intro hc32
                        change pw_g h29 125 0 ≤ (0 : Int) at hc32
                        refine pw_ld E (pc' := 136) (st' := [.ref 141]) rfl (fun _ => rfl) ?_
                        refine pw_ld E (pc' := 137) (st' := [pw_i wt, .ref 141]) rfl (fun _ => rfl) ?_
                        have he33 : pw_gm h29 125 25 = pw_gm h23 125 25 := by rw [← h29w]; exact pw_gm_ne (by omega)
                        obtain ⟨f34l, f34h, -⟩ := pw_obj (c := 125) h29I rfl
                        refine pw_call (m' := 222) (As := [.ref 141, pw_i wt]) (rest := []) (ls'' := [some (.ref 141), some (pw_i wt), none, none]) (Nat.le_trans (by decide) hd) E rfl (fun _ => pw_iV rfl rfl rfl rfl (pw_cellI f34h rfl)) (rfl : pm_ent 222 = some (2, 4, 12, 2, pmc_222)) rfl rfl (cm_222 (pw_dp hd (by decide)) h29I (wt) (by omega) (by omega) (by omega)) ?_
                        rintro u36 v35 ⟨rfl, w37, rfl⟩
                        refine ⟨_, rfl, ?_⟩
                        show pw X d h29 234 140 [some (.ref 141), some (pw_i b), some (pw_i e), some (pw_i wt), some (pw_i k40_4)] [.long w37] _
                        refine pw_lret E rfl ?_
                        exact ⟨h29I, h29F, ⟨_, rfl⟩⟩
                      · intro hc38
                        change ¬ (pw_g h29 125 0 ≤ (0 : Int)) at hc38
                        exfalso; omega
                  · skip
                    refine pw_if E (pc' := 120) rfl (by decide) (by omega) (by omega) ?_ ?_
                    · intro hc40
                      change x25 = (0 : Int) at hc40
                      refine pw_ld E (pc' := 121) (st' := [pw_i 1, .ref 141]) rfl (fun _ => rfl) ?_
                      refine pw_putI h23I E (c := 125) (k := 0) (pc' := 124) rfl rfl rfl rfl (by omega) (by omega) (by omega) (by omega) rfl rfl ?_
                      intro h41I h41E
                      generalize h41w : pw_w h23 125 0 (pw_i 1) = h41 at h41I h41E ⊢
                      have h41F := h23F.tr (h41E.wk (W' := [125]) (by first | rfl | simp))
                      refine pw_ld E (pc' := 125) (st' := [.ref 141]) rfl (fun _ => rfl) ?_
                      have he43 : pw_g h41 125 0 = 1 := by rw [← h41w]; exact pw_g_eq (c := 125) (k := 0) h23I rfl rfl (by omega) (by omega)
                      refine pw_getI2 h41I E (c := 125) (k := 0) (pc' := 128) rfl rfl rfl rfl rfl rfl (fun hf42a hf42b => ?_)
                      refine pw_if E (pc' := 135) rfl (by decide) (by omega) (by omega) ?_ ?_
                      · intro hc44
                        change pw_g h41 125 0 ≤ (0 : Int) at hc44
                        exfalso; omega
                      · intro hc45
                        change ¬ (pw_g h41 125 0 ≤ (0 : Int)) at hc45
                        refine pw_ld E (pc' := 132) (st' := [.long (Int64.ofInt 0)]) rfl (fun _ => rfl) ?_
                        refine pw_goto E (pc' := 140) rfl (by decide) ?_
                        refine pw_lret E rfl ?_
                        exact ⟨h41I, h41F, ⟨_, rfl⟩⟩
                    · intro hc46
                      change ¬ (x25 = (0 : Int)) at hc46
                      exfalso; omega
                · intro hc47
                  change ¬ ((24 : Int) ≤ k40_4) at hc47
                  refine pw_ld E (pc' := 48) (st' := [.ref 141]) rfl (fun _ => rfl) ?_
                  refine pw_ld E (pc' := 50) (st' := [pw_i k40_4, .ref 141]) rfl (fun _ => rfl) ?_
                  refine pw_ld E (pc' := 51) (st' := [pw_i b, pw_i k40_4, .ref 141]) rfl (fun _ => rfl) ?_
                  refine pw_ld E (pc' := 52) (st' := [pw_i e, pw_i b, pw_i k40_4, .ref 141]) rfl (fun _ => rfl) ?_
                  obtain ⟨f48l, f48h, -⟩ := pw_obj (c := 125) I40 rfl
                  refine pw_call (m' := 214) (As := [.ref 141, pw_i k40_4, pw_i b, pw_i e]) (rest := []) (ls'' := [some (.ref 141), some (pw_i k40_4), some (pw_i b), some (pw_i e)]) (Nat.le_trans (by decide) hd) E rfl (fun _ => pw_iV rfl rfl rfl rfl (pw_cellI f48h rfl)) (rfl : pm_ent 214 = some (4, 4, 12, 1, pmc_214)) rfl rfl (cm_214 (pw_dp hd (by decide)) I40 (k40_4) (by omega) (by omega) (b) (by omega) (by omega) (e) (by omega) (by omega)) ?_
                  rintro u50 v49 ⟨rfl, x51, rfl, hx51a, hx51b⟩
                  refine ⟨_, rfl, ?_⟩
                  show pw X d gh40 234 55 [some (.ref 141), some (pw_i b), some (pw_i e), some (pw_i wt), some (pw_i k40_4)] [pw_i x51] _
                  refine pw_if E (pc' := 102) rfl (by decide) (by omega) (by omega) ?_ ?_
                  · intro hc52
                    change x51 = (0 : Int) at hc52
                    refine pw_inc E (pc' := 105) (ls' := [some (.ref 141), some (pw_i b), some (pw_i e), some (pw_i wt), some (pw_i (k40_4 + 1))]) rfl rfl rfl rfl ?_
                    refine pw_goto E (pc' := 40) rfl (by decide) ?_
                    exact ih40 _ (by omega) (k40_4 + 1) gh40 I40 E40 (by omega) (by omega) (by omega) (by omega) (by omega) rfl
                  · intro hc53
                    change ¬ (x51 = (0 : Int)) at hc53
                    refine pw_ld E (pc' := 59) (st' := [.ref 141]) rfl (fun _ => rfl) ?_
                    refine pw_getR (b := 148) I40 E (c := 125) (k := 11) (pc' := 62) rfl rfl rfl rfl rfl rfl rfl ?_
                    refine pw_ld E (pc' := 64) (st' := [pw_i k40_4, .ref 148]) rfl (fun _ => rfl) ?_
                    refine pw_ald2 I40 E (c := 132) (pc' := 65) rfl rfl rfl (by decide) rfl (by decide) (by omega) (by omega) rfl (fun hf54a hf54b => ?_)
                    refine pw_if E (pc' := 102) rfl (by decide) (by omega) (by omega) ?_ ?_
                    · intro hc55
                      change pw_g gh40 132 (k40_4.toNat) ≠ (0 : Int) at hc55
                      refine pw_inc E (pc' := 105) (ls' := [some (.ref 141), some (pw_i b), some (pw_i e), some (pw_i wt), some (pw_i (k40_4 + 1))]) rfl rfl rfl rfl ?_
                      refine pw_goto E (pc' := 40) rfl (by decide) ?_
                      exact ih40 _ (by omega) (k40_4 + 1) gh40 I40 E40 (by omega) (by omega) (by omega) (by omega) (by omega) rfl
                    · intro hc56
                      change ¬ (pw_g gh40 132 (k40_4.toNat) ≠ (0 : Int)) at hc56
                      refine pw_ld E (pc' := 69) (st' := [.ref 141]) rfl (fun _ => rfl) ?_
                      refine pw_ld E (pc' := 70) (st' := [.ref 141, .ref 141]) rfl (fun _ => rfl) ?_
                      refine pw_getR (b := 149) I40 E (c := 125) (k := 12) (pc' := 73) rfl rfl rfl rfl rfl rfl rfl ?_
                      refine pw_ld E (pc' := 75) (st' := [pw_i k40_4, .ref 149, .ref 141]) rfl (fun _ => rfl) ?_
                      refine pw_ald2 I40 E (c := 133) (pc' := 76) rfl rfl rfl (by decide) rfl (by decide) (by omega) (by omega) rfl (fun hf57a hf57b => ?_)
                      refine pw_ld E (pc' := 77) (st' := [.ref 141, pw_i (pw_g gh40 133 (k40_4.toNat)), .ref 141]) rfl (fun _ => rfl) ?_
                      refine pw_getR (b := 152) I40 E (c := 125) (k := 16) (pc' := 80) rfl rfl rfl rfl rfl rfl rfl ?_
                      refine pw_ld E (pc' := 81) (st' := [pw_i e, .ref 152, pw_i (pw_g gh40 133 (k40_4.toNat)), .ref 141]) rfl (fun _ => rfl) ?_
                      refine pw_ald2 I40 E (c := 136) (pc' := 82) rfl rfl rfl (by decide) rfl (by decide) (by omega) (by omega) rfl (fun hf58a hf58b => ?_)
                      refine pw_if2 E (pc' := 89) rfl (by decide) (by omega) (by omega) (by omega) (by omega) ?_ ?_
                      · intro hc59
                        change pw_g gh40 136 (e.toNat) ≤ pw_g gh40 133 (k40_4.toNat) at hc59
                        refine pw_ld E (pc' := 90) (st' := [pw_i 0, .ref 141]) rfl (fun _ => rfl) ?_
                        refine pw_ld E (pc' := 91) (st' := [.ref 141, pw_i 0, .ref 141]) rfl (fun _ => rfl) ?_
                        refine pw_ld E (pc' := 93) (st' := [pw_i k40_4, .ref 141, pw_i 0, .ref 141]) rfl (fun _ => rfl) ?_
                        refine pw_ld E (pc' := 94) (st' := [pw_i b, pw_i k40_4, .ref 141, pw_i 0, .ref 141]) rfl (fun _ => rfl) ?_
                        refine pw_ld E (pc' := 95) (st' := [pw_i e, pw_i b, pw_i k40_4, .ref 141, pw_i 0, .ref 141]) rfl (fun _ => rfl) ?_
                        obtain ⟨f60l, f60h, -⟩ := pw_obj (c := 125) I40 rfl
                        refine pw_call (m' := 215) (As := [.ref 141, pw_i k40_4, pw_i b, pw_i e]) (rest := [pw_i 0, .ref 141]) (ls'' := [some (.ref 141), some (pw_i k40_4), some (pw_i b), some (pw_i e)]) (Nat.le_trans (by decide) hd) E rfl (fun _ => pw_iV rfl rfl rfl rfl (pw_cellI f60h rfl)) (rfl : pm_ent 215 = some (4, 4, 12, 0, pmc_215)) rfl rfl (cm_215 (pw_dp hd (by decide)) I40 (k40_4) (by omega) (by omega) (b) (by omega) (by omega) (e) (by omega) (by omega)) ?_
                        rintro u62 v61 ⟨rfl, x63, rfl, hx63a, hx63b⟩
                        refine ⟨_, rfl, ?_⟩
                        show pw X d gh40 234 98 [some (.ref 141), some (pw_i b), some (pw_i e), some (pw_i wt), some (pw_i k40_4)] [pw_i x63, pw_i 0, .ref 141] _
                        refine pw_i2l E (pc' := 99) rfl rfl (by omega) (by omega) ?_
                        obtain ⟨f64l, f64h, -⟩ := pw_obj (c := 125) I40 rfl
                        refine pw_call (m' := 220) (As := [.ref 141, pw_i 0, .long (Int64.ofInt x63)]) (rest := []) (ls'' := [some (.ref 141), some (pw_i 0), some (.long (Int64.ofInt x63)), none]) (Nat.le_trans (by decide) hd) E rfl (fun _ => pw_iV rfl rfl rfl rfl (pw_cellI f64h rfl)) (rfl : pm_ent 220 = some (3, 4, 12, 4, pmc_220)) rfl rfl (cm_220 (pw_dp hd (by decide)) I40 (0) (by omega) (by omega) (Int64.ofInt x63) (by omega) (by omega) (by omega)) ?_
                        rintro h65 v66 ⟨h65I, h65E, hq67, rfl⟩
                        refine ⟨_, rfl, ?_⟩
                        have h65F := E40.tr (h65E.wk (W' := [125]) (by first | rfl | simp))
                        show pw X d h65 234 102 [some (.ref 141), some (pw_i b), some (pw_i e), some (pw_i wt), some (pw_i k40_4)] [] _
                        refine pw_inc E (pc' := 105) (ls' := [some (.ref 141), some (pw_i b), some (pw_i e), some (pw_i wt), some (pw_i (k40_4 + 1))]) rfl rfl rfl rfl ?_
                        refine pw_goto E (pc' := 40) rfl (by decide) ?_
                        exact ih40 _ (by omega) (k40_4 + 1) h65 h65I h65F (by omega) (by omega) (by omega) (by omega) (by omega) rfl
                      · intro hc68
                        change ¬ (pw_g gh40 136 (e.toNat) ≤ pw_g gh40 133 (k40_4.toNat)) at hc68
                        refine pw_ld E (pc' := 86) (st' := [pw_i 1, .ref 141]) rfl (fun _ => rfl) ?_
                        refine pw_goto E (pc' := 90) rfl (by decide) ?_
                        refine pw_ld E (pc' := 91) (st' := [.ref 141, pw_i 1, .ref 141]) rfl (fun _ => rfl) ?_
                        refine pw_ld E (pc' := 93) (st' := [pw_i k40_4, .ref 141, pw_i 1, .ref 141]) rfl (fun _ => rfl) ?_
                        refine pw_ld E (pc' := 94) (st' := [pw_i b, pw_i k40_4, .ref 141, pw_i 1, .ref 141]) rfl (fun _ => rfl) ?_
                        refine pw_ld E (pc' := 95) (st' := [pw_i e, pw_i b, pw_i k40_4, .ref 141, pw_i 1, .ref 141]) rfl (fun _ => rfl) ?_
                        obtain ⟨f69l, f69h, -⟩ := pw_obj (c := 125) I40 rfl
                        refine pw_call (m' := 215) (As := [.ref 141, pw_i k40_4, pw_i b, pw_i e]) (rest := [pw_i 1, .ref 141]) (ls'' := [some (.ref 141), some (pw_i k40_4), some (pw_i b), some (pw_i e)]) (Nat.le_trans (by decide) hd) E rfl (fun _ => pw_iV rfl rfl rfl rfl (pw_cellI f69h rfl)) (rfl : pm_ent 215 = some (4, 4, 12, 0, pmc_215)) rfl rfl (cm_215 (pw_dp hd (by decide)) I40 (k40_4) (by omega) (by omega) (b) (by omega) (by omega) (e) (by omega) (by omega)) ?_
                        rintro u71 v70 ⟨rfl, x72, rfl, hx72a, hx72b⟩
                        refine ⟨_, rfl, ?_⟩
                        show pw X d gh40 234 98 [some (.ref 141), some (pw_i b), some (pw_i e), some (pw_i wt), some (pw_i k40_4)] [pw_i x72, pw_i 1, .ref 141] _
                        refine pw_i2l E (pc' := 99) rfl rfl (by omega) (by omega) ?_
                        obtain ⟨f73l, f73h, -⟩ := pw_obj (c := 125) I40 rfl
                        refine pw_call (m' := 220) (As := [.ref 141, pw_i 1, .long (Int64.ofInt x72)]) (rest := []) (ls'' := [some (.ref 141), some (pw_i 1), some (.long (Int64.ofInt x72)), none]) (Nat.le_trans (by decide) hd) E rfl (fun _ => pw_iV rfl rfl rfl rfl (pw_cellI f73h rfl)) (rfl : pm_ent 220 = some (3, 4, 12, 4, pmc_220)) rfl rfl (cm_220 (pw_dp hd (by decide)) I40 (1) (by omega) (by omega) (Int64.ofInt x72) (by omega) (by omega) (by omega)) ?_
                        rintro h74 v75 ⟨h74I, h74E, hq76, rfl⟩
                        refine ⟨_, rfl, ?_⟩
                        have h74F := E40.tr (h74E.wk (W' := [125]) (by first | rfl | simp))
                        show pw X d h74 234 102 [some (.ref 141), some (pw_i b), some (pw_i e), some (pw_i wt), some (pw_i k40_4)] [] _
                        refine pw_inc E (pc' := 105) (ls' := [some (.ref 141), some (pw_i b), some (pw_i e), some (pw_i wt), some (pw_i (k40_4 + 1))]) rfl rfl rfl rfl ?_
                        refine pw_goto E (pc' := 40) rfl (by decide) ?_
                        exact ih40 _ (by omega) (k40_4 + 1) h74 h74I h74F (by omega) (by omega) (by omega) (by omega) (by omega) rfl
            exact L40 _ (0) h18 h18I h18F (by omega) (by omega) (by omega) (by omega) (by omega) rfl
          · intro hc77
            change ¬ (pw_g h13 125 0 ≤ (0 : Int)) at hc77
            exfalso; omega
      · skip
        refine pw_if E (pc' := 20) rfl (by decide) (by omega) (by omega) ?_ ?_
        · intro hc79
          change x9 = (0 : Int) at hc79
          refine pw_ld E (pc' := 21) (st' := [pw_i 1, .ref 141]) rfl (fun _ => rfl) ?_
          refine pw_putI I E (c := 125) (k := 0) (pc' := 24) rfl rfl rfl rfl (by omega) (by omega) (by omega) (by omega) rfl rfl ?_
          intro h80I h80E
          generalize h80w : pw_w h 125 0 (pw_i 1) = h80 at h80I h80E ⊢
          have h80F := E0.tr (h80E.wk (W' := [125]) (by first | rfl | simp))
          refine pw_ld E (pc' := 25) (st' := [.ref 141]) rfl (fun _ => rfl) ?_
          have he82 : pw_g h80 125 0 = 1 := by rw [← h80w]; exact pw_g_eq (c := 125) (k := 0) I rfl rfl (by omega) (by omega)
          refine pw_getI2 h80I E (c := 125) (k := 0) (pc' := 28) rfl rfl rfl rfl rfl rfl (fun hf81a hf81b => ?_)
          refine pw_if E (pc' := 33) rfl (by decide) (by omega) (by omega) ?_ ?_
          · intro hc83
            change pw_g h80 125 0 ≤ (0 : Int) at hc83
            exfalso; omega
          · intro hc84
            change ¬ (pw_g h80 125 0 ≤ (0 : Int)) at hc84
            refine pw_ld E (pc' := 32) (st' := [.long (Int64.ofInt 0)]) rfl (fun _ => rfl) ?_
            refine pw_lret E rfl ?_
            exact ⟨h80I, h80F, ⟨_, rfl⟩⟩
        · intro hc85
          change ¬ (x9 = (0 : Int)) at hc85
          exfalso; omega
  · skip
    refine pw_if E (pc' := 20) rfl (by decide) (by omega) (by omega) ?_ ?_
    · intro hc87
      change x3 = (0 : Int) at hc87
      refine pw_ld E (pc' := 21) (st' := [pw_i 1, .ref 141]) rfl (fun _ => rfl) ?_
      refine pw_putI I E (c := 125) (k := 0) (pc' := 24) rfl rfl rfl rfl (by omega) (by omega) (by omega) (by omega) rfl rfl ?_
      intro h88I h88E
      generalize h88w : pw_w h 125 0 (pw_i 1) = h88 at h88I h88E ⊢
      have h88F := E0.tr (h88E.wk (W' := [125]) (by first | rfl | simp))
      refine pw_ld E (pc' := 25) (st' := [.ref 141]) rfl (fun _ => rfl) ?_
      have he90 : pw_g h88 125 0 = 1 := by rw [← h88w]; exact pw_g_eq (c := 125) (k := 0) I rfl rfl (by omega) (by omega)
      refine pw_getI2 h88I E (c := 125) (k := 0) (pc' := 28) rfl rfl rfl rfl rfl rfl (fun hf89a hf89b => ?_)
      refine pw_if E (pc' := 33) rfl (by decide) (by omega) (by omega) ?_ ?_
      · intro hc91
        change pw_g h88 125 0 ≤ (0 : Int) at hc91
        exfalso; omega
      · intro hc92
        change ¬ (pw_g h88 125 0 ≤ (0 : Int)) at hc92
        refine pw_ld E (pc' := 32) (st' := [.long (Int64.ofInt 0)]) rfl (fun _ => rfl) ?_
        refine pw_lret E rfl ?_
        exact ⟨h88I, h88F, ⟨_, rfl⟩⟩
    · intro hc93
      change ¬ (x3 = (0 : Int)) at hc93
      exfalso; omega
set_option maxHeartbeats 4000000 in
theorem cm_303 {X : List (Nat × List Value)} {d : Nat} {h : pm_H} (hd : 4 ≤ d) (I : pw_I h) (a0 : Int) (ha01 : (-2147483648) ≤ a0) (ha02 : a0 ≤ 2147483647) (a1 : Int) (ha11 : (-2147483648) ≤ a1) (ha12 : a1 ≤ 2147483647) (a2 : Int) (ha21 : (-2147483648) ≤ a2) (ha22 : a2 ≤ 2147483647) : pw X d h 303 0 [some (.ref 141), some (pw_i a0), some (pw_i a1), some (pw_i a2), none, none, none, none, none, none] [] (fun h' v => pw_I h' ∧ pw_E [125] h h' ∧ ∃ w : Int64, v = .inl (some (.long w))) := by
  have E : pm_ent 303 = some (4, 10, 12, 2, pmc_303) := rfl
  have E0 : pw_E [125] h h := pw_E.rf _ _
  refine pw_ld E (pc' := 1) (st' := [.ref 141]) rfl (fun _ => rfl) ?_
  refine pw_ld E (pc' := 2) (st' := [pw_i a0, .ref 141]) rfl (fun _ => rfl) ?_
  refine pw_ld E (pc' := 3) (st' := [pw_i a1, pw_i a0, .ref 141]) rfl (fun _ => rfl) ?_
  refine pw_call (m' := 213) (As := [pw_i a0, pw_i a1]) (rest := [.ref 141]) (ls'' := [some (pw_i a0), some (pw_i a1)]) (Nat.le_trans (by decide) hd) E rfl (fun _ => pw_iS rfl rfl rfl) (rfl : pm_ent 213 = some (2, 2, 12, 1, pmc_213)) rfl rfl (cm_213 (pw_dp hd (by decide)) I (a0) (by omega) (by omega) (a1) (by omega) (by omega)) ?_
  rintro u2 v1 ⟨rfl, x3, rfl, hx3a, hx3b, hx3r⟩
  refine ⟨_, rfl, ?_⟩
  show pw X d h 303 6 [some (.ref 141), some (pw_i a0), some (pw_i a1), some (pw_i a2), none, none, none, none, none, none] [pw_i x3, .ref 141] _
  change (x3 = 1 ∧ 0 ≤ a0 ∧ a0 ≤ 11 ∧ 0 ≤ a1 ∧ a1 ≤ 11) ∨ x3 = 0 at hx3r
  rcases (by omega : x3 = 1 ∨ x3 = 0) with hb4 | hb4
  · skip
    refine pw_if E (pc' := 22) rfl (by decide) (by omega) (by omega) ?_ ?_
    · intro hc5
      change x3 = (0 : Int) at hc5
      exfalso; omega
    · intro hc6
      change ¬ (x3 = (0 : Int)) at hc6
      refine pw_ld E (pc' := 10) (st' := [pw_i a2, .ref 141]) rfl (fun _ => rfl) ?_
      refine pw_ld E (pc' := 11) (st' := [pw_i 0, pw_i a2, .ref 141]) rfl (fun _ => rfl) ?_
      refine pw_ld E (pc' := 12) (st' := [pw_i 3, pw_i 0, pw_i a2, .ref 141]) rfl (fun _ => rfl) ?_
      refine pw_call (m' := 202) (As := [pw_i a2, pw_i 0, pw_i 3]) (rest := [.ref 141]) (ls'' := [some (pw_i a2), some (pw_i 0), some (pw_i 3)]) (Nat.le_trans (by decide) hd) E rfl (fun _ => pw_iS rfl rfl rfl) (rfl : pm_ent 202 = some (3, 3, 12, 1, pmc_202)) rfl rfl (cm_202 (pw_dp hd (by decide)) I (a2) (by omega) (by omega) (0) (by omega) (by omega) (3) (by omega) (by omega)) ?_
      rintro u8 v7 ⟨rfl, x9, rfl, hx9a, hx9b, hx9r⟩
      refine ⟨_, rfl, ?_⟩
      show pw X d h 303 15 [some (.ref 141), some (pw_i a0), some (pw_i a1), some (pw_i a2), none, none, none, none, none, none] [pw_i x9, .ref 141] _
      change (x9 = 1 ∧ 0 ≤ a2 ∧ a2 ≤ 3) ∨ (x9 = 0 ∧ ¬ (0 ≤ a2 ∧ a2 ≤ 3)) at hx9r
      rcases (by omega : x9 = 1 ∨ x9 = 0) with hb10 | hb10
      · skip
        refine pw_if E (pc' := 22) rfl (by decide) (by omega) (by omega) ?_ ?_
        · intro hc11
          change x9 = (0 : Int) at hc11
          exfalso; omega
        · intro hc12
          change ¬ (x9 = (0 : Int)) at hc12
          refine pw_ld E (pc' := 19) (st' := [pw_i 0, .ref 141]) rfl (fun _ => rfl) ?_
          refine pw_goto E (pc' := 23) rfl (by decide) ?_
          refine pw_putI I E (c := 125) (k := 0) (pc' := 26) rfl rfl rfl rfl (by omega) (by omega) (by omega) (by omega) rfl rfl ?_
          intro h13I h13E
          generalize h13w : pw_w h 125 0 (pw_i 0) = h13 at h13I h13E ⊢
          have h13F := E0.tr (h13E.wk (W' := [125]) (by first | rfl | simp))
          refine pw_ld E (pc' := 27) (st' := [.ref 141]) rfl (fun _ => rfl) ?_
          have he15 : pw_g h13 125 0 = 0 := by rw [← h13w]; exact pw_g_eq (c := 125) (k := 0) I rfl rfl (by omega) (by omega)
          refine pw_getI2 h13I E (c := 125) (k := 0) (pc' := 30) rfl rfl rfl rfl rfl rfl (fun hf14a hf14b => ?_)
          refine pw_if E (pc' := 35) rfl (by decide) (by omega) (by omega) ?_ ?_
          · intro hc16
            change pw_g h13 125 0 ≤ (0 : Int) at hc16
            refine pw_ld E (pc' := 36) (st' := [.ref 141]) rfl (fun _ => rfl) ?_
            obtain ⟨f17l, f17h, -⟩ := pw_obj (c := 125) h13I rfl
            refine pw_call (m' := 219) (As := [.ref 141]) (rest := []) (ls'' := [some (.ref 141)]) (Nat.le_trans (by decide) hd) E rfl (fun _ => pw_iV rfl rfl rfl rfl (pw_cellI f17h rfl)) (rfl : pm_ent 219 = some (1, 1, 12, 4, pmc_219)) rfl rfl (cm_219 (pw_dp hd (by decide)) h13I ) ?_
            rintro h18 v19 ⟨h18I, h18E, hq20, rfl⟩
            refine ⟨_, rfl, ?_⟩
            have h18F := h13F.tr (h18E.wk (W' := [125]) (by first | rfl | simp))
            show pw X d h18 303 39 [some (.ref 141), some (pw_i a0), some (pw_i a1), some (pw_i a2), none, none, none, none, none, none] [] _
            refine pw_ld E (pc' := 40) (st' := [pw_i 0]) rfl (fun _ => rfl) ?_
            refine pw_ist E (pc' := 42) (ls' := [some (.ref 141), some (pw_i a0), some (pw_i a1), some (pw_i a2), some (pw_i 0), none, none, none, none, none]) rfl rfl rfl rfl ?_
            have L42 : ∀ (n42 : Nat) (k42_4 : Int) (k42_5 : Option Value) (k42_6 : Option Value) (k42_7 : Option Value) (k42_8 : Option Value) (k42_9 : Option Value) (gh42 : pm_H), pw_I gh42 → pw_E [125] h gh42 → 0 ≤ k42_4 → k42_4 ≤ 24 → pw_gm gh42 125 27 + pw_gm gh42 125 29 ≤ k42_4 → 0 ≤ pw_gm gh42 125 27 → 0 ≤ pw_gm gh42 125 29 → (24 - k42_4).toNat = n42 → pw X d gh42 303 42 [some (.ref 141), some (pw_i a0), some (pw_i a1), some (pw_i a2), some (pw_i k42_4), k42_5, k42_6, k42_7, k42_8, k42_9] [] (fun h' v => pw_I h' ∧ pw_E [125] h h' ∧ ∃ w : Int64, v = .inl (some (.long w))) := by
              intro n42
              induction n42 using Nat.strongRecOn with
              | ind n42 ih42 =>
                intro k42_4 k42_5 k42_6 k42_7 k42_8 k42_9 gh42 I42 E42 k42_4a k42_4b hx42_0 hx42_1 hx42_2 hm42
                refine pw_ld E (pc' := 44) (st' := [pw_i k42_4]) rfl (fun _ => rfl) ?_
                refine pw_bip E (pc' := 46) rfl rfl (by decide) ?_
                refine pw_if2 E (pc' := 216) rfl (by decide) (by omega) (by omega) (by decide) (by decide) ?_ ?_
                · intro hc21
                  change (24 : Int) ≤ k42_4 at hc21
                  refine pw_ld E (pc' := 217) (st' := [.ref 141]) rfl (fun _ => rfl) ?_
                  refine pw_ld E (pc' := 218) (st' := [.ref 141, .ref 141]) rfl (fun _ => rfl) ?_
                  obtain ⟨f22l, f22h, -⟩ := pw_obj (c := 125) I42 rfl
                  refine pw_call (m' := 221) (As := [.ref 141]) (rest := [.ref 141]) (ls'' := [some (.ref 141)]) (Nat.le_trans (by decide) hd) E rfl (fun _ => pw_iV rfl rfl rfl rfl (pw_cellI f22h rfl)) (rfl : pm_ent 221 = some (1, 1, 12, 1, pmc_221)) rfl rfl (cm_221 (pw_dp hd (by decide)) I42 ) ?_
                  rintro h23 v24 ⟨h23I, h23E, x25, rfl, hx25a, hx25b, hx25r⟩
                  refine ⟨_, rfl, ?_⟩
                  have h23F := E42.tr (h23E.wk (W' := [125]) (by first | rfl | simp))
                  show pw X d h23 303 221 [some (.ref 141), some (pw_i a0), some (pw_i a1), some (pw_i a2), some (pw_i k42_4), k42_5, k42_6, k42_7, k42_8, k42_9] [pw_i x25, .ref 141] _
                  change (x25 = 1 ∧ 1 ≤ pw_gm h23 125 25 ∧ pw_gm h23 125 25 ≤ 576) ∨ x25 = 0 at hx25r
                  rcases (by omega : x25 = 1 ∨ x25 = 0) with hb26 | hb26
                  · skip
                    refine pw_if E (pc' := 228) rfl (by decide) (by omega) (by omega) ?_ ?_
                    · intro hc27
                      change x25 = (0 : Int) at hc27
                      exfalso; omega
                    · intro hc28
                      change ¬ (x25 = (0 : Int)) at hc28
                      refine pw_ld E (pc' := 225) (st' := [pw_i 0, .ref 141]) rfl (fun _ => rfl) ?_
                      refine pw_goto E (pc' := 229) rfl (by decide) ?_
                      refine pw_putI h23I E (c := 125) (k := 0) (pc' := 232) rfl rfl rfl rfl (by omega) (by omega) (by omega) (by omega) rfl rfl ?_
                      intro h29I h29E
                      generalize h29w : pw_w h23 125 0 (pw_i 0) = h29 at h29I h29E ⊢
                      have h29F := h23F.tr (h29E.wk (W' := [125]) (by first | rfl | simp))
                      refine pw_ld E (pc' := 233) (st' := [.ref 141]) rfl (fun _ => rfl) ?_
                      have he31 : pw_g h29 125 0 = 0 := by rw [← h29w]; exact pw_g_eq (c := 125) (k := 0) h23I rfl rfl (by omega) (by omega)
                      refine pw_getI2 h29I E (c := 125) (k := 0) (pc' := 236) rfl rfl rfl rfl rfl rfl (fun hf30a hf30b => ?_)
                      refine pw_if E (pc' := 243) rfl (by decide) (by omega) (by omega) ?_ ?_
                      · intro hc32
                        change pw_g h29 125 0 ≤ (0 : Int) at hc32
                        refine pw_ld E (pc' := 244) (st' := [.ref 141]) rfl (fun _ => rfl) ?_
                        refine pw_ld E (pc' := 245) (st' := [pw_i a2, .ref 141]) rfl (fun _ => rfl) ?_
                        refine pw_ld E (pc' := 246) (st' := [pw_i 2, pw_i a2, .ref 141]) rfl (fun _ => rfl) ?_
                        refine pw_rem E (pc' := 247) rfl rfl (by omega) (by omega) (by decide) (by decide) ?_
                        have he33 : pw_gm h29 125 25 = pw_gm h23 125 25 := by rw [← h29w]; exact pw_gm_ne (by omega)
                        obtain ⟨f34l, f34h, -⟩ := pw_obj (c := 125) h29I rfl
                        refine pw_call (m' := 222) (As := [.ref 141, pw_i (a2 % 2)]) (rest := []) (ls'' := [some (.ref 141), some (pw_i (a2 % 2)), none, none]) (Nat.le_trans (by decide) hd) E rfl (fun _ => pw_iV rfl rfl rfl rfl (pw_cellI f34h rfl)) (rfl : pm_ent 222 = some (2, 4, 12, 2, pmc_222)) rfl rfl (cm_222 (pw_dp hd (by decide)) h29I (a2 % 2) (by omega) (by omega) (by omega)) ?_
                        rintro u36 v35 ⟨rfl, w37, rfl⟩
                        refine ⟨_, rfl, ?_⟩
                        show pw X d h29 303 250 [some (.ref 141), some (pw_i a0), some (pw_i a1), some (pw_i a2), some (pw_i k42_4), k42_5, k42_6, k42_7, k42_8, k42_9] [.long w37] _
                        refine pw_lret E rfl ?_
                        exact ⟨h29I, h29F, ⟨_, rfl⟩⟩
                      · intro hc38
                        change ¬ (pw_g h29 125 0 ≤ (0 : Int)) at hc38
                        exfalso; omega
                  · skip
                    refine pw_if E (pc' := 228) rfl (by decide) (by omega) (by omega) ?_ ?_
                    · intro hc40
                      change x25 = (0 : Int) at hc40
                      refine pw_ld E (pc' := 229) (st' := [pw_i 1, .ref 141]) rfl (fun _ => rfl) ?_
                      refine pw_putI h23I E (c := 125) (k := 0) (pc' := 232) rfl rfl rfl rfl (by omega) (by omega) (by omega) (by omega) rfl rfl ?_
                      intro h41I h41E
                      generalize h41w : pw_w h23 125 0 (pw_i 1) = h41 at h41I h41E ⊢
                      have h41F := h23F.tr (h41E.wk (W' := [125]) (by first | rfl | simp))
                      refine pw_ld E (pc' := 233) (st' := [.ref 141]) rfl (fun _ => rfl) ?_
                      have he43 : pw_g h41 125 0 = 1 := by rw [← h41w]; exact pw_g_eq (c := 125) (k := 0) h23I rfl rfl (by omega) (by omega)
                      refine pw_getI2 h41I E (c := 125) (k := 0) (pc' := 236) rfl rfl rfl rfl rfl rfl (fun hf42a hf42b => ?_)
                      refine pw_if E (pc' := 243) rfl (by decide) (by omega) (by omega) ?_ ?_
                      · intro hc44
                        change pw_g h41 125 0 ≤ (0 : Int) at hc44
                        exfalso; omega
                      · intro hc45
                        change ¬ (pw_g h41 125 0 ≤ (0 : Int)) at hc45
                        refine pw_ld E (pc' := 240) (st' := [.long (Int64.ofInt 0)]) rfl (fun _ => rfl) ?_
                        refine pw_goto E (pc' := 250) rfl (by decide) ?_
                        refine pw_lret E rfl ?_
                        exact ⟨h41I, h41F, ⟨_, rfl⟩⟩
                    · intro hc46
                      change ¬ (x25 = (0 : Int)) at hc46
                      exfalso; omega
                · intro hc47
                  change ¬ ((24 : Int) ≤ k42_4) at hc47
                  refine pw_ld E (pc' := 50) (st' := [.ref 141]) rfl (fun _ => rfl) ?_
                  refine pw_ld E (pc' := 52) (st' := [pw_i k42_4, .ref 141]) rfl (fun _ => rfl) ?_
                  refine pw_ld E (pc' := 53) (st' := [pw_i a0, pw_i k42_4, .ref 141]) rfl (fun _ => rfl) ?_
                  refine pw_ld E (pc' := 54) (st' := [pw_i a1, pw_i a0, pw_i k42_4, .ref 141]) rfl (fun _ => rfl) ?_
                  obtain ⟨f48l, f48h, -⟩ := pw_obj (c := 125) I42 rfl
                  refine pw_call (m' := 214) (As := [.ref 141, pw_i k42_4, pw_i a0, pw_i a1]) (rest := []) (ls'' := [some (.ref 141), some (pw_i k42_4), some (pw_i a0), some (pw_i a1)]) (Nat.le_trans (by decide) hd) E rfl (fun _ => pw_iV rfl rfl rfl rfl (pw_cellI f48h rfl)) (rfl : pm_ent 214 = some (4, 4, 12, 1, pmc_214)) rfl rfl (cm_214 (pw_dp hd (by decide)) I42 (k42_4) (by omega) (by omega) (a0) (by omega) (by omega) (a1) (by omega) (by omega)) ?_
                  rintro u50 v49 ⟨rfl, x51, rfl, hx51a, hx51b⟩
                  refine ⟨_, rfl, ?_⟩
                  show pw X d gh42 303 57 [some (.ref 141), some (pw_i a0), some (pw_i a1), some (pw_i a2), some (pw_i k42_4), k42_5, k42_6, k42_7, k42_8, k42_9] [pw_i x51] _
                  refine pw_if E (pc' := 210) rfl (by decide) (by omega) (by omega) ?_ ?_
                  · intro hc52
                    change x51 = (0 : Int) at hc52
                    refine pw_inc E (pc' := 213) (ls' := [some (.ref 141), some (pw_i a0), some (pw_i a1), some (pw_i a2), some (pw_i (k42_4 + 1)), k42_5, k42_6, k42_7, k42_8, k42_9]) rfl rfl rfl rfl ?_
                    refine pw_goto E (pc' := 42) rfl (by decide) ?_
                    exact ih42 _ (by omega) (k42_4 + 1) k42_5 k42_6 k42_7 k42_8 k42_9 gh42 I42 E42 (by omega) (by omega) (by omega) (by omega) (by omega) rfl
                  · intro hc53
                    change ¬ (x51 = (0 : Int)) at hc53
                    refine pw_bip E (pc' := 62) rfl rfl (by decide) ?_
                    refine pw_ld E (pc' := 64) (st' := [pw_i k42_4, pw_i 12]) rfl (fun _ => rfl) ?_
                    refine pw_mul E (pc' := 65) rfl rfl ?_
                    refine pw_ld E (pc' := 66) (st' := [pw_i a0, pw_i (12 * k42_4)]) rfl (fun _ => rfl) ?_
                    refine pw_add E (pc' := 67) rfl rfl ?_
                    refine pw_ist E (pc' := 69) (ls' := [some (.ref 141), some (pw_i a0), some (pw_i a1), some (pw_i a2), some (pw_i k42_4), some (pw_i ((12 * k42_4) + a0)), k42_6, k42_7, k42_8, k42_9]) rfl rfl rfl rfl ?_
                    refine pw_bip E (pc' := 71) rfl rfl (by decide) ?_
                    refine pw_ld E (pc' := 73) (st' := [pw_i k42_4, pw_i 12]) rfl (fun _ => rfl) ?_
                    refine pw_mul E (pc' := 74) rfl rfl ?_
                    refine pw_ld E (pc' := 75) (st' := [pw_i a1, pw_i (12 * k42_4)]) rfl (fun _ => rfl) ?_
                    refine pw_add E (pc' := 76) rfl rfl ?_
                    refine pw_ist E (pc' := 78) (ls' := [some (.ref 141), some (pw_i a0), some (pw_i a1), some (pw_i a2), some (pw_i k42_4), some (pw_i ((12 * k42_4) + a0)), some (pw_i ((12 * k42_4) + a1)), k42_7, k42_8, k42_9]) rfl rfl rfl rfl ?_
                    refine pw_ld E (pc' := 79) (st' := [.ref 141]) rfl (fun _ => rfl) ?_
                    refine pw_ld E (pc' := 81) (st' := [pw_i k42_4, .ref 141]) rfl (fun _ => rfl) ?_
                    refine pw_ld E (pc' := 82) (st' := [pw_i a0, pw_i k42_4, .ref 141]) rfl (fun _ => rfl) ?_
                    refine pw_ld E (pc' := 83) (st' := [pw_i a1, pw_i a0, pw_i k42_4, .ref 141]) rfl (fun _ => rfl) ?_
                    obtain ⟨f54l, f54h, -⟩ := pw_obj (c := 125) I42 rfl
                    refine pw_call (m' := 215) (As := [.ref 141, pw_i k42_4, pw_i a0, pw_i a1]) (rest := []) (ls'' := [some (.ref 141), some (pw_i k42_4), some (pw_i a0), some (pw_i a1)]) (Nat.le_trans (by decide) hd) E rfl (fun _ => pw_iV rfl rfl rfl rfl (pw_cellI f54h rfl)) (rfl : pm_ent 215 = some (4, 4, 12, 0, pmc_215)) rfl rfl (cm_215 (pw_dp hd (by decide)) I42 (k42_4) (by omega) (by omega) (a0) (by omega) (by omega) (a1) (by omega) (by omega)) ?_
                    rintro u56 v55 ⟨rfl, x57, rfl, hx57a, hx57b⟩
                    refine ⟨_, rfl, ?_⟩
                    show pw X d gh42 303 86 [some (.ref 141), some (pw_i a0), some (pw_i a1), some (pw_i a2), some (pw_i k42_4), some (pw_i ((12 * k42_4) + a0)), some (pw_i ((12 * k42_4) + a1)), k42_7, k42_8, k42_9] [pw_i x57] _
                    refine pw_ist E (pc' := 88) (ls' := [some (.ref 141), some (pw_i a0), some (pw_i a1), some (pw_i a2), some (pw_i k42_4), some (pw_i ((12 * k42_4) + a0)), some (pw_i ((12 * k42_4) + a1)), some (pw_i x57), k42_8, k42_9]) rfl rfl rfl rfl ?_
                    refine pw_ld E (pc' := 89) (st' := [.ref 141]) rfl (fun _ => rfl) ?_
                    refine pw_getR (b := 157) I42 E (c := 125) (k := 21) (pc' := 92) rfl rfl rfl rfl rfl rfl rfl ?_
                    refine pw_ld E (pc' := 94) (st' := [pw_i ((12 * k42_4) + a0), .ref 157]) rfl (fun _ => rfl) ?_
                    refine pw_ald2 I42 E (c := 141) (pc' := 95) rfl rfl rfl (by decide) rfl (by decide) (by omega) (by omega) rfl (fun hf58a hf58b => ?_)
                    refine pw_ld E (pc' := 96) (st' := [pw_i 1, pw_i (pw_g gh42 141 (((12 * k42_4) + a0).toNat))]) rfl (fun _ => rfl) ?_
                    refine pw_if2 E (pc' := 126) rfl (by decide) (by omega) (by omega) (by decide) (by decide) ?_ ?_
                    · intro hc59
                      change pw_g gh42 141 (((12 * k42_4) + a0).toNat) ≠ (1 : Int) at hc59
                      refine pw_ld E (pc' := 128) (st' := [pw_i x57]) rfl (fun _ => rfl) ?_
                      refine pw_ist E (pc' := 130) (ls' := [some (.ref 141), some (pw_i a0), some (pw_i a1), some (pw_i a2), some (pw_i k42_4), some (pw_i ((12 * k42_4) + a0)), some (pw_i ((12 * k42_4) + a1)), some (pw_i x57), some (pw_i x57), k42_9]) rfl rfl rfl rfl ?_
                      refine pw_ld E (pc' := 131) (st' := [pw_i a2]) rfl (fun _ => rfl) ?_
                      refine pw_ld E (pc' := 132) (st' := [pw_i 2, pw_i a2]) rfl (fun _ => rfl) ?_
                      refine pw_if2 E (pc' := 139) rfl (by decide) (by omega) (by omega) (by decide) (by decide) ?_ ?_
                      · intro hc60
                        change (2 : Int) ≤ a2 at hc60
                        refine pw_ld E (pc' := 140) (st' := [pw_i 0]) rfl (fun _ => rfl) ?_
                        refine pw_ld E (pc' := 141) (st' := [.ref 141, pw_i 0]) rfl (fun _ => rfl) ?_
                        refine pw_getR (b := 148) I42 E (c := 125) (k := 11) (pc' := 144) rfl rfl rfl rfl rfl rfl rfl ?_
                        refine pw_ld E (pc' := 146) (st' := [pw_i k42_4, .ref 148, pw_i 0]) rfl (fun _ => rfl) ?_
                        refine pw_ald2 I42 E (c := 132) (pc' := 147) rfl rfl rfl (by decide) rfl (by decide) (by omega) (by omega) rfl (fun hf61a hf61b => ?_)
                        refine pw_if E (pc' := 154) rfl (by decide) (by omega) (by omega) ?_ ?_
                        · intro hc62
                          change pw_g gh42 132 (k42_4.toNat) ≠ (0 : Int) at hc62
                          refine pw_ld E (pc' := 155) (st' := [pw_i 0, pw_i 0]) rfl (fun _ => rfl) ?_
                          refine pw_if2 E (pc' := 162) rfl (by decide) (by decide) (by decide) (by decide) (by decide) ?_ ?_
                          · intro hc63
                            change (0 : Int) ≠ (0 : Int) at hc63
                            exfalso; omega
                          · intro hc64
                            change ¬ ((0 : Int) ≠ (0 : Int)) at hc64
                            refine pw_ld E (pc' := 159) (st' := [pw_i 1]) rfl (fun _ => rfl) ?_
                            refine pw_goto E (pc' := 163) rfl (by decide) ?_
                            refine pw_ist E (pc' := 165) (ls' := [some (.ref 141), some (pw_i a0), some (pw_i a1), some (pw_i a2), some (pw_i k42_4), some (pw_i ((12 * k42_4) + a0)), some (pw_i ((12 * k42_4) + a1)), some (pw_i x57), some (pw_i x57), some (pw_i 1)]) rfl rfl rfl rfl ?_
                            refine pw_ld E (pc' := 166) (st' := [.ref 141]) rfl (fun _ => rfl) ?_
                            refine pw_ld E (pc' := 167) (st' := [.ref 141, .ref 141]) rfl (fun _ => rfl) ?_
                            refine pw_getR (b := 148) I42 E (c := 125) (k := 11) (pc' := 170) rfl rfl rfl rfl rfl rfl rfl ?_
                            refine pw_ld E (pc' := 172) (st' := [pw_i k42_4, .ref 148, .ref 141]) rfl (fun _ => rfl) ?_
                            refine pw_ald2 I42 E (c := 132) (pc' := 173) rfl rfl rfl (by decide) rfl (by decide) (by omega) (by omega) rfl (fun hf65a hf65b => ?_)
                            refine pw_if E (pc' := 180) rfl (by decide) (by omega) (by omega) ?_ ?_
                            · intro hc66
                              change pw_g gh42 132 (k42_4.toNat) ≠ (0 : Int) at hc66
                              refine pw_ld E (pc' := 181) (st' := [pw_i 0, .ref 141]) rfl (fun _ => rfl) ?_
                              refine pw_ld E (pc' := 183) (st' := [pw_i 1, pw_i 0, .ref 141]) rfl (fun _ => rfl) ?_
                              refine pw_ld E (pc' := 185) (st' := [pw_i x57, pw_i 1, pw_i 0, .ref 141]) rfl (fun _ => rfl) ?_
                              refine pw_ld E (pc' := 187) (st' := [pw_i x57, pw_i x57, pw_i 1, pw_i 0, .ref 141]) rfl (fun _ => rfl) ?_
                              refine pw_if2 E (pc' := 194) rfl (by decide) (by omega) (by omega) (by omega) (by omega) ?_ ?_
                              · intro hc67
                                change x57 ≤ x57 at hc67
                                refine pw_ld E (pc' := 195) (st' := [pw_i 0, pw_i 1, pw_i 0, .ref 141]) rfl (fun _ => rfl) ?_
                                refine pw_if2 E (pc' := 204) rfl (by decide) (by decide) (by decide) (by decide) (by decide) ?_ ?_
                                · intro hc68
                                  change (1 : Int) ≠ (0 : Int) at hc68
                                  refine pw_ld E (pc' := 206) (st' := [pw_i x57, pw_i 0, .ref 141]) rfl (fun _ => rfl) ?_
                                  refine pw_i2l E (pc' := 207) rfl rfl (by omega) (by omega) ?_
                                  obtain ⟨f69l, f69h, -⟩ := pw_obj (c := 125) I42 rfl
                                  refine pw_call (m' := 220) (As := [.ref 141, pw_i 0, .long (Int64.ofInt x57)]) (rest := []) (ls'' := [some (.ref 141), some (pw_i 0), some (.long (Int64.ofInt x57)), none]) (Nat.le_trans (by decide) hd) E rfl (fun _ => pw_iV rfl rfl rfl rfl (pw_cellI f69h rfl)) (rfl : pm_ent 220 = some (3, 4, 12, 4, pmc_220)) rfl rfl (cm_220 (pw_dp hd (by decide)) I42 (0) (by omega) (by omega) (Int64.ofInt x57) (by omega) (by omega) (by omega)) ?_
                                  rintro h70 v71 ⟨h70I, h70E, hq72, rfl⟩
                                  refine ⟨_, rfl, ?_⟩
                                  have h70F := E42.tr (h70E.wk (W' := [125]) (by first | rfl | simp))
                                  show pw X d h70 303 210 [some (.ref 141), some (pw_i a0), some (pw_i a1), some (pw_i a2), some (pw_i k42_4), some (pw_i ((12 * k42_4) + a0)), some (pw_i ((12 * k42_4) + a1)), some (pw_i x57), some (pw_i x57), some (pw_i 1)] [] _
                                  refine pw_inc E (pc' := 213) (ls' := [some (.ref 141), some (pw_i a0), some (pw_i a1), some (pw_i a2), some (pw_i (k42_4 + 1)), some (pw_i ((12 * k42_4) + a0)), some (pw_i ((12 * k42_4) + a1)), some (pw_i x57), some (pw_i x57), some (pw_i 1)]) rfl rfl rfl rfl ?_
                                  refine pw_goto E (pc' := 42) rfl (by decide) ?_
                                  exact ih42 _ (by omega) (k42_4 + 1) (some (pw_i ((12 * k42_4) + a0))) (some (pw_i ((12 * k42_4) + a1))) (some (pw_i x57)) (some (pw_i x57)) (some (pw_i 1)) h70 h70I h70F (by omega) (by omega) (by omega) (by omega) (by omega) rfl
                                · intro hc73
                                  change ¬ ((1 : Int) ≠ (0 : Int)) at hc73
                                  exfalso; omega
                              · intro hc74
                                change ¬ (x57 ≤ x57) at hc74
                                refine pw_ld E (pc' := 191) (st' := [pw_i 1, pw_i 1, pw_i 0, .ref 141]) rfl (fun _ => rfl) ?_
                                refine pw_goto E (pc' := 195) rfl (by decide) ?_
                                refine pw_if2 E (pc' := 204) rfl (by decide) (by decide) (by decide) (by decide) (by decide) ?_ ?_
                                · intro hc75
                                  change (1 : Int) ≠ (1 : Int) at hc75
                                  exfalso; omega
                                · intro hc76
                                  change ¬ ((1 : Int) ≠ (1 : Int)) at hc76
                                  refine pw_ld E (pc' := 200) (st' := [pw_i x57, pw_i 0, .ref 141]) rfl (fun _ => rfl) ?_
                                  refine pw_i2l E (pc' := 201) rfl rfl (by omega) (by omega) ?_
                                  refine pw_goto E (pc' := 207) rfl (by decide) ?_
                                  obtain ⟨f77l, f77h, -⟩ := pw_obj (c := 125) I42 rfl
                                  refine pw_call (m' := 220) (As := [.ref 141, pw_i 0, .long (Int64.ofInt x57)]) (rest := []) (ls'' := [some (.ref 141), some (pw_i 0), some (.long (Int64.ofInt x57)), none]) (Nat.le_trans (by decide) hd) E rfl (fun _ => pw_iV rfl rfl rfl rfl (pw_cellI f77h rfl)) (rfl : pm_ent 220 = some (3, 4, 12, 4, pmc_220)) rfl rfl (cm_220 (pw_dp hd (by decide)) I42 (0) (by omega) (by omega) (Int64.ofInt x57) (by omega) (by omega) (by omega)) ?_
                                  rintro h78 v79 ⟨h78I, h78E, hq80, rfl⟩
                                  refine ⟨_, rfl, ?_⟩
                                  have h78F := E42.tr (h78E.wk (W' := [125]) (by first | rfl | simp))
                                  show pw X d h78 303 210 [some (.ref 141), some (pw_i a0), some (pw_i a1), some (pw_i a2), some (pw_i k42_4), some (pw_i ((12 * k42_4) + a0)), some (pw_i ((12 * k42_4) + a1)), some (pw_i x57), some (pw_i x57), some (pw_i 1)] [] _
                                  refine pw_inc E (pc' := 213) (ls' := [some (.ref 141), some (pw_i a0), some (pw_i a1), some (pw_i a2), some (pw_i (k42_4 + 1)), some (pw_i ((12 * k42_4) + a0)), some (pw_i ((12 * k42_4) + a1)), some (pw_i x57), some (pw_i x57), some (pw_i 1)]) rfl rfl rfl rfl ?_
                                  refine pw_goto E (pc' := 42) rfl (by decide) ?_
                                  exact ih42 _ (by omega) (k42_4 + 1) (some (pw_i ((12 * k42_4) + a0))) (some (pw_i ((12 * k42_4) + a1))) (some (pw_i x57)) (some (pw_i x57)) (some (pw_i 1)) h78 h78I h78F (by omega) (by omega) (by omega) (by omega) (by omega) rfl
                            · intro hc81
                              change ¬ (pw_g gh42 132 (k42_4.toNat) ≠ (0 : Int)) at hc81
                              exfalso; omega
                        · intro hc82
                          change ¬ (pw_g gh42 132 (k42_4.toNat) ≠ (0 : Int)) at hc82
                          refine pw_ld E (pc' := 151) (st' := [pw_i 1, pw_i 0]) rfl (fun _ => rfl) ?_
                          refine pw_goto E (pc' := 155) rfl (by decide) ?_
                          refine pw_if2 E (pc' := 162) rfl (by decide) (by decide) (by decide) (by decide) (by decide) ?_ ?_
                          · intro hc83
                            change (0 : Int) ≠ (1 : Int) at hc83
                            refine pw_ld E (pc' := 163) (st' := [pw_i 0]) rfl (fun _ => rfl) ?_
                            refine pw_ist E (pc' := 165) (ls' := [some (.ref 141), some (pw_i a0), some (pw_i a1), some (pw_i a2), some (pw_i k42_4), some (pw_i ((12 * k42_4) + a0)), some (pw_i ((12 * k42_4) + a1)), some (pw_i x57), some (pw_i x57), some (pw_i 0)]) rfl rfl rfl rfl ?_
                            refine pw_ld E (pc' := 166) (st' := [.ref 141]) rfl (fun _ => rfl) ?_
                            refine pw_ld E (pc' := 167) (st' := [.ref 141, .ref 141]) rfl (fun _ => rfl) ?_
                            refine pw_getR (b := 148) I42 E (c := 125) (k := 11) (pc' := 170) rfl rfl rfl rfl rfl rfl rfl ?_
                            refine pw_ld E (pc' := 172) (st' := [pw_i k42_4, .ref 148, .ref 141]) rfl (fun _ => rfl) ?_
                            refine pw_ald2 I42 E (c := 132) (pc' := 173) rfl rfl rfl (by decide) rfl (by decide) (by omega) (by omega) rfl (fun hf84a hf84b => ?_)
                            refine pw_if E (pc' := 180) rfl (by decide) (by omega) (by omega) ?_ ?_
                            · intro hc85
                              change pw_g gh42 132 (k42_4.toNat) ≠ (0 : Int) at hc85
                              exfalso; omega
                            · intro hc86
                              change ¬ (pw_g gh42 132 (k42_4.toNat) ≠ (0 : Int)) at hc86
                              refine pw_ld E (pc' := 177) (st' := [pw_i 1, .ref 141]) rfl (fun _ => rfl) ?_
                              refine pw_goto E (pc' := 181) rfl (by decide) ?_
                              refine pw_ld E (pc' := 183) (st' := [pw_i 0, pw_i 1, .ref 141]) rfl (fun _ => rfl) ?_
                              refine pw_ld E (pc' := 185) (st' := [pw_i x57, pw_i 0, pw_i 1, .ref 141]) rfl (fun _ => rfl) ?_
                              refine pw_ld E (pc' := 187) (st' := [pw_i x57, pw_i x57, pw_i 0, pw_i 1, .ref 141]) rfl (fun _ => rfl) ?_
                              refine pw_if2 E (pc' := 194) rfl (by decide) (by omega) (by omega) (by omega) (by omega) ?_ ?_
                              · intro hc87
                                change x57 ≤ x57 at hc87
                                refine pw_ld E (pc' := 195) (st' := [pw_i 0, pw_i 0, pw_i 1, .ref 141]) rfl (fun _ => rfl) ?_
                                refine pw_if2 E (pc' := 204) rfl (by decide) (by decide) (by decide) (by decide) (by decide) ?_ ?_
                                · intro hc88
                                  change (0 : Int) ≠ (0 : Int) at hc88
                                  exfalso; omega
                                · intro hc89
                                  change ¬ ((0 : Int) ≠ (0 : Int)) at hc89
                                  refine pw_ld E (pc' := 200) (st' := [pw_i x57, pw_i 1, .ref 141]) rfl (fun _ => rfl) ?_
                                  refine pw_i2l E (pc' := 201) rfl rfl (by omega) (by omega) ?_
                                  refine pw_goto E (pc' := 207) rfl (by decide) ?_
                                  obtain ⟨f90l, f90h, -⟩ := pw_obj (c := 125) I42 rfl
                                  refine pw_call (m' := 220) (As := [.ref 141, pw_i 1, .long (Int64.ofInt x57)]) (rest := []) (ls'' := [some (.ref 141), some (pw_i 1), some (.long (Int64.ofInt x57)), none]) (Nat.le_trans (by decide) hd) E rfl (fun _ => pw_iV rfl rfl rfl rfl (pw_cellI f90h rfl)) (rfl : pm_ent 220 = some (3, 4, 12, 4, pmc_220)) rfl rfl (cm_220 (pw_dp hd (by decide)) I42 (1) (by omega) (by omega) (Int64.ofInt x57) (by omega) (by omega) (by omega)) ?_
                                  rintro h91 v92 ⟨h91I, h91E, hq93, rfl⟩
                                  refine ⟨_, rfl, ?_⟩
                                  have h91F := E42.tr (h91E.wk (W' := [125]) (by first | rfl | simp))
                                  show pw X d h91 303 210 [some (.ref 141), some (pw_i a0), some (pw_i a1), some (pw_i a2), some (pw_i k42_4), some (pw_i ((12 * k42_4) + a0)), some (pw_i ((12 * k42_4) + a1)), some (pw_i x57), some (pw_i x57), some (pw_i 0)] [] _
                                  refine pw_inc E (pc' := 213) (ls' := [some (.ref 141), some (pw_i a0), some (pw_i a1), some (pw_i a2), some (pw_i (k42_4 + 1)), some (pw_i ((12 * k42_4) + a0)), some (pw_i ((12 * k42_4) + a1)), some (pw_i x57), some (pw_i x57), some (pw_i 0)]) rfl rfl rfl rfl ?_
                                  refine pw_goto E (pc' := 42) rfl (by decide) ?_
                                  exact ih42 _ (by omega) (k42_4 + 1) (some (pw_i ((12 * k42_4) + a0))) (some (pw_i ((12 * k42_4) + a1))) (some (pw_i x57)) (some (pw_i x57)) (some (pw_i 0)) h91 h91I h91F (by omega) (by omega) (by omega) (by omega) (by omega) rfl
                              · intro hc94
                                change ¬ (x57 ≤ x57) at hc94
                                refine pw_ld E (pc' := 191) (st' := [pw_i 1, pw_i 0, pw_i 1, .ref 141]) rfl (fun _ => rfl) ?_
                                refine pw_goto E (pc' := 195) rfl (by decide) ?_
                                refine pw_if2 E (pc' := 204) rfl (by decide) (by decide) (by decide) (by decide) (by decide) ?_ ?_
                                · intro hc95
                                  change (0 : Int) ≠ (1 : Int) at hc95
                                  refine pw_ld E (pc' := 206) (st' := [pw_i x57, pw_i 1, .ref 141]) rfl (fun _ => rfl) ?_
                                  refine pw_i2l E (pc' := 207) rfl rfl (by omega) (by omega) ?_
                                  obtain ⟨f96l, f96h, -⟩ := pw_obj (c := 125) I42 rfl
                                  refine pw_call (m' := 220) (As := [.ref 141, pw_i 1, .long (Int64.ofInt x57)]) (rest := []) (ls'' := [some (.ref 141), some (pw_i 1), some (.long (Int64.ofInt x57)), none]) (Nat.le_trans (by decide) hd) E rfl (fun _ => pw_iV rfl rfl rfl rfl (pw_cellI f96h rfl)) (rfl : pm_ent 220 = some (3, 4, 12, 4, pmc_220)) rfl rfl (cm_220 (pw_dp hd (by decide)) I42 (1) (by omega) (by omega) (Int64.ofInt x57) (by omega) (by omega) (by omega)) ?_
                                  rintro h97 v98 ⟨h97I, h97E, hq99, rfl⟩
                                  refine ⟨_, rfl, ?_⟩
                                  have h97F := E42.tr (h97E.wk (W' := [125]) (by first | rfl | simp))
                                  show pw X d h97 303 210 [some (.ref 141), some (pw_i a0), some (pw_i a1), some (pw_i a2), some (pw_i k42_4), some (pw_i ((12 * k42_4) + a0)), some (pw_i ((12 * k42_4) + a1)), some (pw_i x57), some (pw_i x57), some (pw_i 0)] [] _
                                  refine pw_inc E (pc' := 213) (ls' := [some (.ref 141), some (pw_i a0), some (pw_i a1), some (pw_i a2), some (pw_i (k42_4 + 1)), some (pw_i ((12 * k42_4) + a0)), some (pw_i ((12 * k42_4) + a1)), some (pw_i x57), some (pw_i x57), some (pw_i 0)]) rfl rfl rfl rfl ?_
                                  refine pw_goto E (pc' := 42) rfl (by decide) ?_
                                  exact ih42 _ (by omega) (k42_4 + 1) (some (pw_i ((12 * k42_4) + a0))) (some (pw_i ((12 * k42_4) + a1))) (some (pw_i x57)) (some (pw_i x57)) (some (pw_i 0)) h97 h97I h97F (by omega) (by omega) (by omega) (by omega) (by omega) rfl
                                · intro hc100
                                  change ¬ ((0 : Int) ≠ (1 : Int)) at hc100
                                  exfalso; omega
                          · intro hc101
                            change ¬ ((0 : Int) ≠ (1 : Int)) at hc101
                            exfalso; omega
                      · intro hc102
                        change ¬ ((2 : Int) ≤ a2) at hc102
                        refine pw_ld E (pc' := 136) (st' := [pw_i 1]) rfl (fun _ => rfl) ?_
                        refine pw_goto E (pc' := 140) rfl (by decide) ?_
                        refine pw_ld E (pc' := 141) (st' := [.ref 141, pw_i 1]) rfl (fun _ => rfl) ?_
                        refine pw_getR (b := 148) I42 E (c := 125) (k := 11) (pc' := 144) rfl rfl rfl rfl rfl rfl rfl ?_
                        refine pw_ld E (pc' := 146) (st' := [pw_i k42_4, .ref 148, pw_i 1]) rfl (fun _ => rfl) ?_
                        refine pw_ald2 I42 E (c := 132) (pc' := 147) rfl rfl rfl (by decide) rfl (by decide) (by omega) (by omega) rfl (fun hf103a hf103b => ?_)
                        refine pw_if E (pc' := 154) rfl (by decide) (by omega) (by omega) ?_ ?_
                        · intro hc104
                          change pw_g gh42 132 (k42_4.toNat) ≠ (0 : Int) at hc104
                          refine pw_ld E (pc' := 155) (st' := [pw_i 0, pw_i 1]) rfl (fun _ => rfl) ?_
                          refine pw_if2 E (pc' := 162) rfl (by decide) (by decide) (by decide) (by decide) (by decide) ?_ ?_
                          · intro hc105
                            change (1 : Int) ≠ (0 : Int) at hc105
                            refine pw_ld E (pc' := 163) (st' := [pw_i 0]) rfl (fun _ => rfl) ?_
                            refine pw_ist E (pc' := 165) (ls' := [some (.ref 141), some (pw_i a0), some (pw_i a1), some (pw_i a2), some (pw_i k42_4), some (pw_i ((12 * k42_4) + a0)), some (pw_i ((12 * k42_4) + a1)), some (pw_i x57), some (pw_i x57), some (pw_i 0)]) rfl rfl rfl rfl ?_
                            refine pw_ld E (pc' := 166) (st' := [.ref 141]) rfl (fun _ => rfl) ?_
                            refine pw_ld E (pc' := 167) (st' := [.ref 141, .ref 141]) rfl (fun _ => rfl) ?_
                            refine pw_getR (b := 148) I42 E (c := 125) (k := 11) (pc' := 170) rfl rfl rfl rfl rfl rfl rfl ?_
                            refine pw_ld E (pc' := 172) (st' := [pw_i k42_4, .ref 148, .ref 141]) rfl (fun _ => rfl) ?_
                            refine pw_ald2 I42 E (c := 132) (pc' := 173) rfl rfl rfl (by decide) rfl (by decide) (by omega) (by omega) rfl (fun hf106a hf106b => ?_)
                            refine pw_if E (pc' := 180) rfl (by decide) (by omega) (by omega) ?_ ?_
                            · intro hc107
                              change pw_g gh42 132 (k42_4.toNat) ≠ (0 : Int) at hc107
                              refine pw_ld E (pc' := 181) (st' := [pw_i 0, .ref 141]) rfl (fun _ => rfl) ?_
                              refine pw_ld E (pc' := 183) (st' := [pw_i 0, pw_i 0, .ref 141]) rfl (fun _ => rfl) ?_
                              refine pw_ld E (pc' := 185) (st' := [pw_i x57, pw_i 0, pw_i 0, .ref 141]) rfl (fun _ => rfl) ?_
                              refine pw_ld E (pc' := 187) (st' := [pw_i x57, pw_i x57, pw_i 0, pw_i 0, .ref 141]) rfl (fun _ => rfl) ?_
                              refine pw_if2 E (pc' := 194) rfl (by decide) (by omega) (by omega) (by omega) (by omega) ?_ ?_
                              · intro hc108
                                change x57 ≤ x57 at hc108
                                refine pw_ld E (pc' := 195) (st' := [pw_i 0, pw_i 0, pw_i 0, .ref 141]) rfl (fun _ => rfl) ?_
                                refine pw_if2 E (pc' := 204) rfl (by decide) (by decide) (by decide) (by decide) (by decide) ?_ ?_
                                · intro hc109
                                  change (0 : Int) ≠ (0 : Int) at hc109
                                  exfalso; omega
                                · intro hc110
                                  change ¬ ((0 : Int) ≠ (0 : Int)) at hc110
                                  refine pw_ld E (pc' := 200) (st' := [pw_i x57, pw_i 0, .ref 141]) rfl (fun _ => rfl) ?_
                                  refine pw_i2l E (pc' := 201) rfl rfl (by omega) (by omega) ?_
                                  refine pw_goto E (pc' := 207) rfl (by decide) ?_
                                  obtain ⟨f111l, f111h, -⟩ := pw_obj (c := 125) I42 rfl
                                  refine pw_call (m' := 220) (As := [.ref 141, pw_i 0, .long (Int64.ofInt x57)]) (rest := []) (ls'' := [some (.ref 141), some (pw_i 0), some (.long (Int64.ofInt x57)), none]) (Nat.le_trans (by decide) hd) E rfl (fun _ => pw_iV rfl rfl rfl rfl (pw_cellI f111h rfl)) (rfl : pm_ent 220 = some (3, 4, 12, 4, pmc_220)) rfl rfl (cm_220 (pw_dp hd (by decide)) I42 (0) (by omega) (by omega) (Int64.ofInt x57) (by omega) (by omega) (by omega)) ?_
                                  rintro h112 v113 ⟨h112I, h112E, hq114, rfl⟩
                                  refine ⟨_, rfl, ?_⟩
                                  have h112F := E42.tr (h112E.wk (W' := [125]) (by first | rfl | simp))
                                  show pw X d h112 303 210 [some (.ref 141), some (pw_i a0), some (pw_i a1), some (pw_i a2), some (pw_i k42_4), some (pw_i ((12 * k42_4) + a0)), some (pw_i ((12 * k42_4) + a1)), some (pw_i x57), some (pw_i x57), some (pw_i 0)] [] _
                                  refine pw_inc E (pc' := 213) (ls' := [some (.ref 141), some (pw_i a0), some (pw_i a1), some (pw_i a2), some (pw_i (k42_4 + 1)), some (pw_i ((12 * k42_4) + a0)), some (pw_i ((12 * k42_4) + a1)), some (pw_i x57), some (pw_i x57), some (pw_i 0)]) rfl rfl rfl rfl ?_
                                  refine pw_goto E (pc' := 42) rfl (by decide) ?_
                                  exact ih42 _ (by omega) (k42_4 + 1) (some (pw_i ((12 * k42_4) + a0))) (some (pw_i ((12 * k42_4) + a1))) (some (pw_i x57)) (some (pw_i x57)) (some (pw_i 0)) h112 h112I h112F (by omega) (by omega) (by omega) (by omega) (by omega) rfl
                              · intro hc115
                                change ¬ (x57 ≤ x57) at hc115
                                refine pw_ld E (pc' := 191) (st' := [pw_i 1, pw_i 0, pw_i 0, .ref 141]) rfl (fun _ => rfl) ?_
                                refine pw_goto E (pc' := 195) rfl (by decide) ?_
                                refine pw_if2 E (pc' := 204) rfl (by decide) (by decide) (by decide) (by decide) (by decide) ?_ ?_
                                · intro hc116
                                  change (0 : Int) ≠ (1 : Int) at hc116
                                  refine pw_ld E (pc' := 206) (st' := [pw_i x57, pw_i 0, .ref 141]) rfl (fun _ => rfl) ?_
                                  refine pw_i2l E (pc' := 207) rfl rfl (by omega) (by omega) ?_
                                  obtain ⟨f117l, f117h, -⟩ := pw_obj (c := 125) I42 rfl
                                  refine pw_call (m' := 220) (As := [.ref 141, pw_i 0, .long (Int64.ofInt x57)]) (rest := []) (ls'' := [some (.ref 141), some (pw_i 0), some (.long (Int64.ofInt x57)), none]) (Nat.le_trans (by decide) hd) E rfl (fun _ => pw_iV rfl rfl rfl rfl (pw_cellI f117h rfl)) (rfl : pm_ent 220 = some (3, 4, 12, 4, pmc_220)) rfl rfl (cm_220 (pw_dp hd (by decide)) I42 (0) (by omega) (by omega) (Int64.ofInt x57) (by omega) (by omega) (by omega)) ?_
                                  rintro h118 v119 ⟨h118I, h118E, hq120, rfl⟩
                                  refine ⟨_, rfl, ?_⟩
                                  have h118F := E42.tr (h118E.wk (W' := [125]) (by first | rfl | simp))
                                  show pw X d h118 303 210 [some (.ref 141), some (pw_i a0), some (pw_i a1), some (pw_i a2), some (pw_i k42_4), some (pw_i ((12 * k42_4) + a0)), some (pw_i ((12 * k42_4) + a1)), some (pw_i x57), some (pw_i x57), some (pw_i 0)] [] _
                                  refine pw_inc E (pc' := 213) (ls' := [some (.ref 141), some (pw_i a0), some (pw_i a1), some (pw_i a2), some (pw_i (k42_4 + 1)), some (pw_i ((12 * k42_4) + a0)), some (pw_i ((12 * k42_4) + a1)), some (pw_i x57), some (pw_i x57), some (pw_i 0)]) rfl rfl rfl rfl ?_
                                  refine pw_goto E (pc' := 42) rfl (by decide) ?_
                                  exact ih42 _ (by omega) (k42_4 + 1) (some (pw_i ((12 * k42_4) + a0))) (some (pw_i ((12 * k42_4) + a1))) (some (pw_i x57)) (some (pw_i x57)) (some (pw_i 0)) h118 h118I h118F (by omega) (by omega) (by omega) (by omega) (by omega) rfl
                                · intro hc121
                                  change ¬ ((0 : Int) ≠ (1 : Int)) at hc121
                                  exfalso; omega
                            · intro hc122
                              change ¬ (pw_g gh42 132 (k42_4.toNat) ≠ (0 : Int)) at hc122
                              exfalso; omega
                          · intro hc123
                            change ¬ ((1 : Int) ≠ (0 : Int)) at hc123
                            exfalso; omega
                        · intro hc124
                          change ¬ (pw_g gh42 132 (k42_4.toNat) ≠ (0 : Int)) at hc124
                          refine pw_ld E (pc' := 151) (st' := [pw_i 1, pw_i 1]) rfl (fun _ => rfl) ?_
                          refine pw_goto E (pc' := 155) rfl (by decide) ?_
                          refine pw_if2 E (pc' := 162) rfl (by decide) (by decide) (by decide) (by decide) (by decide) ?_ ?_
                          · intro hc125
                            change (1 : Int) ≠ (1 : Int) at hc125
                            exfalso; omega
                          · intro hc126
                            change ¬ ((1 : Int) ≠ (1 : Int)) at hc126
                            refine pw_ld E (pc' := 159) (st' := [pw_i 1]) rfl (fun _ => rfl) ?_
                            refine pw_goto E (pc' := 163) rfl (by decide) ?_
                            refine pw_ist E (pc' := 165) (ls' := [some (.ref 141), some (pw_i a0), some (pw_i a1), some (pw_i a2), some (pw_i k42_4), some (pw_i ((12 * k42_4) + a0)), some (pw_i ((12 * k42_4) + a1)), some (pw_i x57), some (pw_i x57), some (pw_i 1)]) rfl rfl rfl rfl ?_
                            refine pw_ld E (pc' := 166) (st' := [.ref 141]) rfl (fun _ => rfl) ?_
                            refine pw_ld E (pc' := 167) (st' := [.ref 141, .ref 141]) rfl (fun _ => rfl) ?_
                            refine pw_getR (b := 148) I42 E (c := 125) (k := 11) (pc' := 170) rfl rfl rfl rfl rfl rfl rfl ?_
                            refine pw_ld E (pc' := 172) (st' := [pw_i k42_4, .ref 148, .ref 141]) rfl (fun _ => rfl) ?_
                            refine pw_ald2 I42 E (c := 132) (pc' := 173) rfl rfl rfl (by decide) rfl (by decide) (by omega) (by omega) rfl (fun hf127a hf127b => ?_)
                            refine pw_if E (pc' := 180) rfl (by decide) (by omega) (by omega) ?_ ?_
                            · intro hc128
                              change pw_g gh42 132 (k42_4.toNat) ≠ (0 : Int) at hc128
                              exfalso; omega
                            · intro hc129
                              change ¬ (pw_g gh42 132 (k42_4.toNat) ≠ (0 : Int)) at hc129
                              refine pw_ld E (pc' := 177) (st' := [pw_i 1, .ref 141]) rfl (fun _ => rfl) ?_
                              refine pw_goto E (pc' := 181) rfl (by decide) ?_
                              refine pw_ld E (pc' := 183) (st' := [pw_i 1, pw_i 1, .ref 141]) rfl (fun _ => rfl) ?_
                              refine pw_ld E (pc' := 185) (st' := [pw_i x57, pw_i 1, pw_i 1, .ref 141]) rfl (fun _ => rfl) ?_
                              refine pw_ld E (pc' := 187) (st' := [pw_i x57, pw_i x57, pw_i 1, pw_i 1, .ref 141]) rfl (fun _ => rfl) ?_
                              refine pw_if2 E (pc' := 194) rfl (by decide) (by omega) (by omega) (by omega) (by omega) ?_ ?_
                              · intro hc130
                                change x57 ≤ x57 at hc130
                                refine pw_ld E (pc' := 195) (st' := [pw_i 0, pw_i 1, pw_i 1, .ref 141]) rfl (fun _ => rfl) ?_
                                refine pw_if2 E (pc' := 204) rfl (by decide) (by decide) (by decide) (by decide) (by decide) ?_ ?_
                                · intro hc131
                                  change (1 : Int) ≠ (0 : Int) at hc131
                                  refine pw_ld E (pc' := 206) (st' := [pw_i x57, pw_i 1, .ref 141]) rfl (fun _ => rfl) ?_
                                  refine pw_i2l E (pc' := 207) rfl rfl (by omega) (by omega) ?_
                                  obtain ⟨f132l, f132h, -⟩ := pw_obj (c := 125) I42 rfl
                                  refine pw_call (m' := 220) (As := [.ref 141, pw_i 1, .long (Int64.ofInt x57)]) (rest := []) (ls'' := [some (.ref 141), some (pw_i 1), some (.long (Int64.ofInt x57)), none]) (Nat.le_trans (by decide) hd) E rfl (fun _ => pw_iV rfl rfl rfl rfl (pw_cellI f132h rfl)) (rfl : pm_ent 220 = some (3, 4, 12, 4, pmc_220)) rfl rfl (cm_220 (pw_dp hd (by decide)) I42 (1) (by omega) (by omega) (Int64.ofInt x57) (by omega) (by omega) (by omega)) ?_
                                  rintro h133 v134 ⟨h133I, h133E, hq135, rfl⟩
                                  refine ⟨_, rfl, ?_⟩
                                  have h133F := E42.tr (h133E.wk (W' := [125]) (by first | rfl | simp))
                                  show pw X d h133 303 210 [some (.ref 141), some (pw_i a0), some (pw_i a1), some (pw_i a2), some (pw_i k42_4), some (pw_i ((12 * k42_4) + a0)), some (pw_i ((12 * k42_4) + a1)), some (pw_i x57), some (pw_i x57), some (pw_i 1)] [] _
                                  refine pw_inc E (pc' := 213) (ls' := [some (.ref 141), some (pw_i a0), some (pw_i a1), some (pw_i a2), some (pw_i (k42_4 + 1)), some (pw_i ((12 * k42_4) + a0)), some (pw_i ((12 * k42_4) + a1)), some (pw_i x57), some (pw_i x57), some (pw_i 1)]) rfl rfl rfl rfl ?_
                                  refine pw_goto E (pc' := 42) rfl (by decide) ?_
                                  exact ih42 _ (by omega) (k42_4 + 1) (some (pw_i ((12 * k42_4) + a0))) (some (pw_i ((12 * k42_4) + a1))) (some (pw_i x57)) (some (pw_i x57)) (some (pw_i 1)) h133 h133I h133F (by omega) (by omega) (by omega) (by omega) (by omega) rfl
                                · intro hc136
                                  change ¬ ((1 : Int) ≠ (0 : Int)) at hc136
                                  exfalso; omega
                              · intro hc137
                                change ¬ (x57 ≤ x57) at hc137
                                refine pw_ld E (pc' := 191) (st' := [pw_i 1, pw_i 1, pw_i 1, .ref 141]) rfl (fun _ => rfl) ?_
                                refine pw_goto E (pc' := 195) rfl (by decide) ?_
                                refine pw_if2 E (pc' := 204) rfl (by decide) (by decide) (by decide) (by decide) (by decide) ?_ ?_
                                · intro hc138
                                  change (1 : Int) ≠ (1 : Int) at hc138
                                  exfalso; omega
                                · intro hc139
                                  change ¬ ((1 : Int) ≠ (1 : Int)) at hc139
                                  refine pw_ld E (pc' := 200) (st' := [pw_i x57, pw_i 1, .ref 141]) rfl (fun _ => rfl) ?_
                                  refine pw_i2l E (pc' := 201) rfl rfl (by omega) (by omega) ?_
                                  refine pw_goto E (pc' := 207) rfl (by decide) ?_
                                  obtain ⟨f140l, f140h, -⟩ := pw_obj (c := 125) I42 rfl
                                  refine pw_call (m' := 220) (As := [.ref 141, pw_i 1, .long (Int64.ofInt x57)]) (rest := []) (ls'' := [some (.ref 141), some (pw_i 1), some (.long (Int64.ofInt x57)), none]) (Nat.le_trans (by decide) hd) E rfl (fun _ => pw_iV rfl rfl rfl rfl (pw_cellI f140h rfl)) (rfl : pm_ent 220 = some (3, 4, 12, 4, pmc_220)) rfl rfl (cm_220 (pw_dp hd (by decide)) I42 (1) (by omega) (by omega) (Int64.ofInt x57) (by omega) (by omega) (by omega)) ?_
                                  rintro h141 v142 ⟨h141I, h141E, hq143, rfl⟩
                                  refine ⟨_, rfl, ?_⟩
                                  have h141F := E42.tr (h141E.wk (W' := [125]) (by first | rfl | simp))
                                  show pw X d h141 303 210 [some (.ref 141), some (pw_i a0), some (pw_i a1), some (pw_i a2), some (pw_i k42_4), some (pw_i ((12 * k42_4) + a0)), some (pw_i ((12 * k42_4) + a1)), some (pw_i x57), some (pw_i x57), some (pw_i 1)] [] _
                                  refine pw_inc E (pc' := 213) (ls' := [some (.ref 141), some (pw_i a0), some (pw_i a1), some (pw_i a2), some (pw_i (k42_4 + 1)), some (pw_i ((12 * k42_4) + a0)), some (pw_i ((12 * k42_4) + a1)), some (pw_i x57), some (pw_i x57), some (pw_i 1)]) rfl rfl rfl rfl ?_
                                  refine pw_goto E (pc' := 42) rfl (by decide) ?_
                                  exact ih42 _ (by omega) (k42_4 + 1) (some (pw_i ((12 * k42_4) + a0))) (some (pw_i ((12 * k42_4) + a1))) (some (pw_i x57)) (some (pw_i x57)) (some (pw_i 1)) h141 h141I h141F (by omega) (by omega) (by omega) (by omega) (by omega) rfl
                    · intro hc144
                      change ¬ (pw_g gh42 141 (((12 * k42_4) + a0).toNat) ≠ (1 : Int)) at hc144
                      refine pw_ld E (pc' := 100) (st' := [.ref 141]) rfl (fun _ => rfl) ?_
                      refine pw_getR (b := 157) I42 E (c := 125) (k := 21) (pc' := 103) rfl rfl rfl rfl rfl rfl rfl ?_
                      refine pw_ld E (pc' := 105) (st' := [pw_i ((12 * k42_4) + a1), .ref 157]) rfl (fun _ => rfl) ?_
                      refine pw_ald2 I42 E (c := 141) (pc' := 106) rfl rfl rfl (by decide) rfl (by decide) (by omega) (by omega) rfl (fun hf145a hf145b => ?_)
                      refine pw_ld E (pc' := 107) (st' := [pw_i 1, pw_i (pw_g gh42 141 (((12 * k42_4) + a1).toNat))]) rfl (fun _ => rfl) ?_
                      refine pw_if2 E (pc' := 126) rfl (by decide) (by omega) (by omega) (by decide) (by decide) ?_ ?_
                      · intro hc146
                        change pw_g gh42 141 (((12 * k42_4) + a1).toNat) ≠ (1 : Int) at hc146
                        refine pw_ld E (pc' := 128) (st' := [pw_i x57]) rfl (fun _ => rfl) ?_
                        refine pw_ist E (pc' := 130) (ls' := [some (.ref 141), some (pw_i a0), some (pw_i a1), some (pw_i a2), some (pw_i k42_4), some (pw_i ((12 * k42_4) + a0)), some (pw_i ((12 * k42_4) + a1)), some (pw_i x57), some (pw_i x57), k42_9]) rfl rfl rfl rfl ?_
                        refine pw_ld E (pc' := 131) (st' := [pw_i a2]) rfl (fun _ => rfl) ?_
                        refine pw_ld E (pc' := 132) (st' := [pw_i 2, pw_i a2]) rfl (fun _ => rfl) ?_
                        refine pw_if2 E (pc' := 139) rfl (by decide) (by omega) (by omega) (by decide) (by decide) ?_ ?_
                        · intro hc147
                          change (2 : Int) ≤ a2 at hc147
                          refine pw_ld E (pc' := 140) (st' := [pw_i 0]) rfl (fun _ => rfl) ?_
                          refine pw_ld E (pc' := 141) (st' := [.ref 141, pw_i 0]) rfl (fun _ => rfl) ?_
                          refine pw_getR (b := 148) I42 E (c := 125) (k := 11) (pc' := 144) rfl rfl rfl rfl rfl rfl rfl ?_
                          refine pw_ld E (pc' := 146) (st' := [pw_i k42_4, .ref 148, pw_i 0]) rfl (fun _ => rfl) ?_
                          refine pw_ald2 I42 E (c := 132) (pc' := 147) rfl rfl rfl (by decide) rfl (by decide) (by omega) (by omega) rfl (fun hf148a hf148b => ?_)
                          refine pw_if E (pc' := 154) rfl (by decide) (by omega) (by omega) ?_ ?_
                          · intro hc149
                            change pw_g gh42 132 (k42_4.toNat) ≠ (0 : Int) at hc149
                            refine pw_ld E (pc' := 155) (st' := [pw_i 0, pw_i 0]) rfl (fun _ => rfl) ?_
                            refine pw_if2 E (pc' := 162) rfl (by decide) (by decide) (by decide) (by decide) (by decide) ?_ ?_
                            · intro hc150
                              change (0 : Int) ≠ (0 : Int) at hc150
                              exfalso; omega
                            · intro hc151
                              change ¬ ((0 : Int) ≠ (0 : Int)) at hc151
                              refine pw_ld E (pc' := 159) (st' := [pw_i 1]) rfl (fun _ => rfl) ?_
                              refine pw_goto E (pc' := 163) rfl (by decide) ?_
                              refine pw_ist E (pc' := 165) (ls' := [some (.ref 141), some (pw_i a0), some (pw_i a1), some (pw_i a2), some (pw_i k42_4), some (pw_i ((12 * k42_4) + a0)), some (pw_i ((12 * k42_4) + a1)), some (pw_i x57), some (pw_i x57), some (pw_i 1)]) rfl rfl rfl rfl ?_
                              refine pw_ld E (pc' := 166) (st' := [.ref 141]) rfl (fun _ => rfl) ?_
                              refine pw_ld E (pc' := 167) (st' := [.ref 141, .ref 141]) rfl (fun _ => rfl) ?_
                              refine pw_getR (b := 148) I42 E (c := 125) (k := 11) (pc' := 170) rfl rfl rfl rfl rfl rfl rfl ?_
                              refine pw_ld E (pc' := 172) (st' := [pw_i k42_4, .ref 148, .ref 141]) rfl (fun _ => rfl) ?_
                              refine pw_ald2 I42 E (c := 132) (pc' := 173) rfl rfl rfl (by decide) rfl (by decide) (by omega) (by omega) rfl (fun hf152a hf152b => ?_)
                              refine pw_if E (pc' := 180) rfl (by decide) (by omega) (by omega) ?_ ?_
                              · intro hc153
                                change pw_g gh42 132 (k42_4.toNat) ≠ (0 : Int) at hc153
                                refine pw_ld E (pc' := 181) (st' := [pw_i 0, .ref 141]) rfl (fun _ => rfl) ?_
                                refine pw_ld E (pc' := 183) (st' := [pw_i 1, pw_i 0, .ref 141]) rfl (fun _ => rfl) ?_
                                refine pw_ld E (pc' := 185) (st' := [pw_i x57, pw_i 1, pw_i 0, .ref 141]) rfl (fun _ => rfl) ?_
                                refine pw_ld E (pc' := 187) (st' := [pw_i x57, pw_i x57, pw_i 1, pw_i 0, .ref 141]) rfl (fun _ => rfl) ?_
                                refine pw_if2 E (pc' := 194) rfl (by decide) (by omega) (by omega) (by omega) (by omega) ?_ ?_
                                · intro hc154
                                  change x57 ≤ x57 at hc154
                                  refine pw_ld E (pc' := 195) (st' := [pw_i 0, pw_i 1, pw_i 0, .ref 141]) rfl (fun _ => rfl) ?_
                                  refine pw_if2 E (pc' := 204) rfl (by decide) (by decide) (by decide) (by decide) (by decide) ?_ ?_
                                  · intro hc155
                                    change (1 : Int) ≠ (0 : Int) at hc155
                                    refine pw_ld E (pc' := 206) (st' := [pw_i x57, pw_i 0, .ref 141]) rfl (fun _ => rfl) ?_
                                    refine pw_i2l E (pc' := 207) rfl rfl (by omega) (by omega) ?_
                                    obtain ⟨f156l, f156h, -⟩ := pw_obj (c := 125) I42 rfl
                                    refine pw_call (m' := 220) (As := [.ref 141, pw_i 0, .long (Int64.ofInt x57)]) (rest := []) (ls'' := [some (.ref 141), some (pw_i 0), some (.long (Int64.ofInt x57)), none]) (Nat.le_trans (by decide) hd) E rfl (fun _ => pw_iV rfl rfl rfl rfl (pw_cellI f156h rfl)) (rfl : pm_ent 220 = some (3, 4, 12, 4, pmc_220)) rfl rfl (cm_220 (pw_dp hd (by decide)) I42 (0) (by omega) (by omega) (Int64.ofInt x57) (by omega) (by omega) (by omega)) ?_
                                    rintro h157 v158 ⟨h157I, h157E, hq159, rfl⟩
                                    refine ⟨_, rfl, ?_⟩
                                    have h157F := E42.tr (h157E.wk (W' := [125]) (by first | rfl | simp))
                                    show pw X d h157 303 210 [some (.ref 141), some (pw_i a0), some (pw_i a1), some (pw_i a2), some (pw_i k42_4), some (pw_i ((12 * k42_4) + a0)), some (pw_i ((12 * k42_4) + a1)), some (pw_i x57), some (pw_i x57), some (pw_i 1)] [] _
                                    refine pw_inc E (pc' := 213) (ls' := [some (.ref 141), some (pw_i a0), some (pw_i a1), some (pw_i a2), some (pw_i (k42_4 + 1)), some (pw_i ((12 * k42_4) + a0)), some (pw_i ((12 * k42_4) + a1)), some (pw_i x57), some (pw_i x57), some (pw_i 1)]) rfl rfl rfl rfl ?_
                                    refine pw_goto E (pc' := 42) rfl (by decide) ?_
                                    exact ih42 _ (by omega) (k42_4 + 1) (some (pw_i ((12 * k42_4) + a0))) (some (pw_i ((12 * k42_4) + a1))) (some (pw_i x57)) (some (pw_i x57)) (some (pw_i 1)) h157 h157I h157F (by omega) (by omega) (by omega) (by omega) (by omega) rfl
                                  · intro hc160
                                    change ¬ ((1 : Int) ≠ (0 : Int)) at hc160
                                    exfalso; omega
                                · intro hc161
                                  change ¬ (x57 ≤ x57) at hc161
                                  refine pw_ld E (pc' := 191) (st' := [pw_i 1, pw_i 1, pw_i 0, .ref 141]) rfl (fun _ => rfl) ?_
                                  refine pw_goto E (pc' := 195) rfl (by decide) ?_
                                  refine pw_if2 E (pc' := 204) rfl (by decide) (by decide) (by decide) (by decide) (by decide) ?_ ?_
                                  · intro hc162
                                    change (1 : Int) ≠ (1 : Int) at hc162
                                    exfalso; omega
                                  · intro hc163
                                    change ¬ ((1 : Int) ≠ (1 : Int)) at hc163
                                    refine pw_ld E (pc' := 200) (st' := [pw_i x57, pw_i 0, .ref 141]) rfl (fun _ => rfl) ?_
                                    refine pw_i2l E (pc' := 201) rfl rfl (by omega) (by omega) ?_
                                    refine pw_goto E (pc' := 207) rfl (by decide) ?_
                                    obtain ⟨f164l, f164h, -⟩ := pw_obj (c := 125) I42 rfl
                                    refine pw_call (m' := 220) (As := [.ref 141, pw_i 0, .long (Int64.ofInt x57)]) (rest := []) (ls'' := [some (.ref 141), some (pw_i 0), some (.long (Int64.ofInt x57)), none]) (Nat.le_trans (by decide) hd) E rfl (fun _ => pw_iV rfl rfl rfl rfl (pw_cellI f164h rfl)) (rfl : pm_ent 220 = some (3, 4, 12, 4, pmc_220)) rfl rfl (cm_220 (pw_dp hd (by decide)) I42 (0) (by omega) (by omega) (Int64.ofInt x57) (by omega) (by omega) (by omega)) ?_
                                    rintro h165 v166 ⟨h165I, h165E, hq167, rfl⟩
                                    refine ⟨_, rfl, ?_⟩
                                    have h165F := E42.tr (h165E.wk (W' := [125]) (by first | rfl | simp))
                                    show pw X d h165 303 210 [some (.ref 141), some (pw_i a0), some (pw_i a1), some (pw_i a2), some (pw_i k42_4), some (pw_i ((12 * k42_4) + a0)), some (pw_i ((12 * k42_4) + a1)), some (pw_i x57), some (pw_i x57), some (pw_i 1)] [] _
                                    refine pw_inc E (pc' := 213) (ls' := [some (.ref 141), some (pw_i a0), some (pw_i a1), some (pw_i a2), some (pw_i (k42_4 + 1)), some (pw_i ((12 * k42_4) + a0)), some (pw_i ((12 * k42_4) + a1)), some (pw_i x57), some (pw_i x57), some (pw_i 1)]) rfl rfl rfl rfl ?_
                                    refine pw_goto E (pc' := 42) rfl (by decide) ?_
                                    exact ih42 _ (by omega) (k42_4 + 1) (some (pw_i ((12 * k42_4) + a0))) (some (pw_i ((12 * k42_4) + a1))) (some (pw_i x57)) (some (pw_i x57)) (some (pw_i 1)) h165 h165I h165F (by omega) (by omega) (by omega) (by omega) (by omega) rfl
                              · intro hc168
                                change ¬ (pw_g gh42 132 (k42_4.toNat) ≠ (0 : Int)) at hc168
                                exfalso; omega
                          · intro hc169
                            change ¬ (pw_g gh42 132 (k42_4.toNat) ≠ (0 : Int)) at hc169
                            refine pw_ld E (pc' := 151) (st' := [pw_i 1, pw_i 0]) rfl (fun _ => rfl) ?_
                            refine pw_goto E (pc' := 155) rfl (by decide) ?_
                            refine pw_if2 E (pc' := 162) rfl (by decide) (by decide) (by decide) (by decide) (by decide) ?_ ?_
                            · intro hc170
                              change (0 : Int) ≠ (1 : Int) at hc170
                              refine pw_ld E (pc' := 163) (st' := [pw_i 0]) rfl (fun _ => rfl) ?_
                              refine pw_ist E (pc' := 165) (ls' := [some (.ref 141), some (pw_i a0), some (pw_i a1), some (pw_i a2), some (pw_i k42_4), some (pw_i ((12 * k42_4) + a0)), some (pw_i ((12 * k42_4) + a1)), some (pw_i x57), some (pw_i x57), some (pw_i 0)]) rfl rfl rfl rfl ?_
                              refine pw_ld E (pc' := 166) (st' := [.ref 141]) rfl (fun _ => rfl) ?_
                              refine pw_ld E (pc' := 167) (st' := [.ref 141, .ref 141]) rfl (fun _ => rfl) ?_
                              refine pw_getR (b := 148) I42 E (c := 125) (k := 11) (pc' := 170) rfl rfl rfl rfl rfl rfl rfl ?_
                              refine pw_ld E (pc' := 172) (st' := [pw_i k42_4, .ref 148, .ref 141]) rfl (fun _ => rfl) ?_
                              refine pw_ald2 I42 E (c := 132) (pc' := 173) rfl rfl rfl (by decide) rfl (by decide) (by omega) (by omega) rfl (fun hf171a hf171b => ?_)
                              refine pw_if E (pc' := 180) rfl (by decide) (by omega) (by omega) ?_ ?_
                              · intro hc172
                                change pw_g gh42 132 (k42_4.toNat) ≠ (0 : Int) at hc172
                                exfalso; omega
                              · intro hc173
                                change ¬ (pw_g gh42 132 (k42_4.toNat) ≠ (0 : Int)) at hc173
                                refine pw_ld E (pc' := 177) (st' := [pw_i 1, .ref 141]) rfl (fun _ => rfl) ?_
                                refine pw_goto E (pc' := 181) rfl (by decide) ?_
                                refine pw_ld E (pc' := 183) (st' := [pw_i 0, pw_i 1, .ref 141]) rfl (fun _ => rfl) ?_
                                refine pw_ld E (pc' := 185) (st' := [pw_i x57, pw_i 0, pw_i 1, .ref 141]) rfl (fun _ => rfl) ?_
                                refine pw_ld E (pc' := 187) (st' := [pw_i x57, pw_i x57, pw_i 0, pw_i 1, .ref 141]) rfl (fun _ => rfl) ?_
                                refine pw_if2 E (pc' := 194) rfl (by decide) (by omega) (by omega) (by omega) (by omega) ?_ ?_
                                · intro hc174
                                  change x57 ≤ x57 at hc174
                                  refine pw_ld E (pc' := 195) (st' := [pw_i 0, pw_i 0, pw_i 1, .ref 141]) rfl (fun _ => rfl) ?_
                                  refine pw_if2 E (pc' := 204) rfl (by decide) (by decide) (by decide) (by decide) (by decide) ?_ ?_
                                  · intro hc175
                                    change (0 : Int) ≠ (0 : Int) at hc175
                                    exfalso; omega
                                  · intro hc176
                                    change ¬ ((0 : Int) ≠ (0 : Int)) at hc176
                                    refine pw_ld E (pc' := 200) (st' := [pw_i x57, pw_i 1, .ref 141]) rfl (fun _ => rfl) ?_
                                    refine pw_i2l E (pc' := 201) rfl rfl (by omega) (by omega) ?_
                                    refine pw_goto E (pc' := 207) rfl (by decide) ?_
                                    obtain ⟨f177l, f177h, -⟩ := pw_obj (c := 125) I42 rfl
                                    refine pw_call (m' := 220) (As := [.ref 141, pw_i 1, .long (Int64.ofInt x57)]) (rest := []) (ls'' := [some (.ref 141), some (pw_i 1), some (.long (Int64.ofInt x57)), none]) (Nat.le_trans (by decide) hd) E rfl (fun _ => pw_iV rfl rfl rfl rfl (pw_cellI f177h rfl)) (rfl : pm_ent 220 = some (3, 4, 12, 4, pmc_220)) rfl rfl (cm_220 (pw_dp hd (by decide)) I42 (1) (by omega) (by omega) (Int64.ofInt x57) (by omega) (by omega) (by omega)) ?_
                                    rintro h178 v179 ⟨h178I, h178E, hq180, rfl⟩
                                    refine ⟨_, rfl, ?_⟩
                                    have h178F := E42.tr (h178E.wk (W' := [125]) (by first | rfl | simp))
                                    show pw X d h178 303 210 [some (.ref 141), some (pw_i a0), some (pw_i a1), some (pw_i a2), some (pw_i k42_4), some (pw_i ((12 * k42_4) + a0)), some (pw_i ((12 * k42_4) + a1)), some (pw_i x57), some (pw_i x57), some (pw_i 0)] [] _
                                    refine pw_inc E (pc' := 213) (ls' := [some (.ref 141), some (pw_i a0), some (pw_i a1), some (pw_i a2), some (pw_i (k42_4 + 1)), some (pw_i ((12 * k42_4) + a0)), some (pw_i ((12 * k42_4) + a1)), some (pw_i x57), some (pw_i x57), some (pw_i 0)]) rfl rfl rfl rfl ?_
                                    refine pw_goto E (pc' := 42) rfl (by decide) ?_
                                    exact ih42 _ (by omega) (k42_4 + 1) (some (pw_i ((12 * k42_4) + a0))) (some (pw_i ((12 * k42_4) + a1))) (some (pw_i x57)) (some (pw_i x57)) (some (pw_i 0)) h178 h178I h178F (by omega) (by omega) (by omega) (by omega) (by omega) rfl
                                · intro hc181
                                  change ¬ (x57 ≤ x57) at hc181
                                  refine pw_ld E (pc' := 191) (st' := [pw_i 1, pw_i 0, pw_i 1, .ref 141]) rfl (fun _ => rfl) ?_
                                  refine pw_goto E (pc' := 195) rfl (by decide) ?_
                                  refine pw_if2 E (pc' := 204) rfl (by decide) (by decide) (by decide) (by decide) (by decide) ?_ ?_
                                  · intro hc182
                                    change (0 : Int) ≠ (1 : Int) at hc182
                                    refine pw_ld E (pc' := 206) (st' := [pw_i x57, pw_i 1, .ref 141]) rfl (fun _ => rfl) ?_
                                    refine pw_i2l E (pc' := 207) rfl rfl (by omega) (by omega) ?_
                                    obtain ⟨f183l, f183h, -⟩ := pw_obj (c := 125) I42 rfl
                                    refine pw_call (m' := 220) (As := [.ref 141, pw_i 1, .long (Int64.ofInt x57)]) (rest := []) (ls'' := [some (.ref 141), some (pw_i 1), some (.long (Int64.ofInt x57)), none]) (Nat.le_trans (by decide) hd) E rfl (fun _ => pw_iV rfl rfl rfl rfl (pw_cellI f183h rfl)) (rfl : pm_ent 220 = some (3, 4, 12, 4, pmc_220)) rfl rfl (cm_220 (pw_dp hd (by decide)) I42 (1) (by omega) (by omega) (Int64.ofInt x57) (by omega) (by omega) (by omega)) ?_
                                    rintro h184 v185 ⟨h184I, h184E, hq186, rfl⟩
                                    refine ⟨_, rfl, ?_⟩
                                    have h184F := E42.tr (h184E.wk (W' := [125]) (by first | rfl | simp))
                                    show pw X d h184 303 210 [some (.ref 141), some (pw_i a0), some (pw_i a1), some (pw_i a2), some (pw_i k42_4), some (pw_i ((12 * k42_4) + a0)), some (pw_i ((12 * k42_4) + a1)), some (pw_i x57), some (pw_i x57), some (pw_i 0)] [] _
                                    refine pw_inc E (pc' := 213) (ls' := [some (.ref 141), some (pw_i a0), some (pw_i a1), some (pw_i a2), some (pw_i (k42_4 + 1)), some (pw_i ((12 * k42_4) + a0)), some (pw_i ((12 * k42_4) + a1)), some (pw_i x57), some (pw_i x57), some (pw_i 0)]) rfl rfl rfl rfl ?_
                                    refine pw_goto E (pc' := 42) rfl (by decide) ?_
                                    exact ih42 _ (by omega) (k42_4 + 1) (some (pw_i ((12 * k42_4) + a0))) (some (pw_i ((12 * k42_4) + a1))) (some (pw_i x57)) (some (pw_i x57)) (some (pw_i 0)) h184 h184I h184F (by omega) (by omega) (by omega) (by omega) (by omega) rfl
                                  · intro hc187
                                    change ¬ ((0 : Int) ≠ (1 : Int)) at hc187
                                    exfalso; omega
                            · intro hc188
                              change ¬ ((0 : Int) ≠ (1 : Int)) at hc188
                              exfalso; omega
                        · intro hc189
                          change ¬ ((2 : Int) ≤ a2) at hc189
                          refine pw_ld E (pc' := 136) (st' := [pw_i 1]) rfl (fun _ => rfl) ?_
                          refine pw_goto E (pc' := 140) rfl (by decide) ?_
                          refine pw_ld E (pc' := 141) (st' := [.ref 141, pw_i 1]) rfl (fun _ => rfl) ?_
                          refine pw_getR (b := 148) I42 E (c := 125) (k := 11) (pc' := 144) rfl rfl rfl rfl rfl rfl rfl ?_
                          refine pw_ld E (pc' := 146) (st' := [pw_i k42_4, .ref 148, pw_i 1]) rfl (fun _ => rfl) ?_
                          refine pw_ald2 I42 E (c := 132) (pc' := 147) rfl rfl rfl (by decide) rfl (by decide) (by omega) (by omega) rfl (fun hf190a hf190b => ?_)
                          refine pw_if E (pc' := 154) rfl (by decide) (by omega) (by omega) ?_ ?_
                          · intro hc191
                            change pw_g gh42 132 (k42_4.toNat) ≠ (0 : Int) at hc191
                            refine pw_ld E (pc' := 155) (st' := [pw_i 0, pw_i 1]) rfl (fun _ => rfl) ?_
                            refine pw_if2 E (pc' := 162) rfl (by decide) (by decide) (by decide) (by decide) (by decide) ?_ ?_
                            · intro hc192
                              change (1 : Int) ≠ (0 : Int) at hc192
                              refine pw_ld E (pc' := 163) (st' := [pw_i 0]) rfl (fun _ => rfl) ?_
                              refine pw_ist E (pc' := 165) (ls' := [some (.ref 141), some (pw_i a0), some (pw_i a1), some (pw_i a2), some (pw_i k42_4), some (pw_i ((12 * k42_4) + a0)), some (pw_i ((12 * k42_4) + a1)), some (pw_i x57), some (pw_i x57), some (pw_i 0)]) rfl rfl rfl rfl ?_
                              refine pw_ld E (pc' := 166) (st' := [.ref 141]) rfl (fun _ => rfl) ?_
                              refine pw_ld E (pc' := 167) (st' := [.ref 141, .ref 141]) rfl (fun _ => rfl) ?_
                              refine pw_getR (b := 148) I42 E (c := 125) (k := 11) (pc' := 170) rfl rfl rfl rfl rfl rfl rfl ?_
                              refine pw_ld E (pc' := 172) (st' := [pw_i k42_4, .ref 148, .ref 141]) rfl (fun _ => rfl) ?_
                              refine pw_ald2 I42 E (c := 132) (pc' := 173) rfl rfl rfl (by decide) rfl (by decide) (by omega) (by omega) rfl (fun hf193a hf193b => ?_)
                              refine pw_if E (pc' := 180) rfl (by decide) (by omega) (by omega) ?_ ?_
                              · intro hc194
                                change pw_g gh42 132 (k42_4.toNat) ≠ (0 : Int) at hc194
                                refine pw_ld E (pc' := 181) (st' := [pw_i 0, .ref 141]) rfl (fun _ => rfl) ?_
                                refine pw_ld E (pc' := 183) (st' := [pw_i 0, pw_i 0, .ref 141]) rfl (fun _ => rfl) ?_
                                refine pw_ld E (pc' := 185) (st' := [pw_i x57, pw_i 0, pw_i 0, .ref 141]) rfl (fun _ => rfl) ?_
                                refine pw_ld E (pc' := 187) (st' := [pw_i x57, pw_i x57, pw_i 0, pw_i 0, .ref 141]) rfl (fun _ => rfl) ?_
                                refine pw_if2 E (pc' := 194) rfl (by decide) (by omega) (by omega) (by omega) (by omega) ?_ ?_
                                · intro hc195
                                  change x57 ≤ x57 at hc195
                                  refine pw_ld E (pc' := 195) (st' := [pw_i 0, pw_i 0, pw_i 0, .ref 141]) rfl (fun _ => rfl) ?_
                                  refine pw_if2 E (pc' := 204) rfl (by decide) (by decide) (by decide) (by decide) (by decide) ?_ ?_
                                  · intro hc196
                                    change (0 : Int) ≠ (0 : Int) at hc196
                                    exfalso; omega
                                  · intro hc197
                                    change ¬ ((0 : Int) ≠ (0 : Int)) at hc197
                                    refine pw_ld E (pc' := 200) (st' := [pw_i x57, pw_i 0, .ref 141]) rfl (fun _ => rfl) ?_
                                    refine pw_i2l E (pc' := 201) rfl rfl (by omega) (by omega) ?_
                                    refine pw_goto E (pc' := 207) rfl (by decide) ?_
                                    obtain ⟨f198l, f198h, -⟩ := pw_obj (c := 125) I42 rfl
                                    refine pw_call (m' := 220) (As := [.ref 141, pw_i 0, .long (Int64.ofInt x57)]) (rest := []) (ls'' := [some (.ref 141), some (pw_i 0), some (.long (Int64.ofInt x57)), none]) (Nat.le_trans (by decide) hd) E rfl (fun _ => pw_iV rfl rfl rfl rfl (pw_cellI f198h rfl)) (rfl : pm_ent 220 = some (3, 4, 12, 4, pmc_220)) rfl rfl (cm_220 (pw_dp hd (by decide)) I42 (0) (by omega) (by omega) (Int64.ofInt x57) (by omega) (by omega) (by omega)) ?_
                                    rintro h199 v200 ⟨h199I, h199E, hq201, rfl⟩
                                    refine ⟨_, rfl, ?_⟩
                                    have h199F := E42.tr (h199E.wk (W' := [125]) (by first | rfl | simp))
                                    show pw X d h199 303 210 [some (.ref 141), some (pw_i a0), some (pw_i a1), some (pw_i a2), some (pw_i k42_4), some (pw_i ((12 * k42_4) + a0)), some (pw_i ((12 * k42_4) + a1)), some (pw_i x57), some (pw_i x57), some (pw_i 0)] [] _
                                    refine pw_inc E (pc' := 213) (ls' := [some (.ref 141), some (pw_i a0), some (pw_i a1), some (pw_i a2), some (pw_i (k42_4 + 1)), some (pw_i ((12 * k42_4) + a0)), some (pw_i ((12 * k42_4) + a1)), some (pw_i x57), some (pw_i x57), some (pw_i 0)]) rfl rfl rfl rfl ?_
                                    refine pw_goto E (pc' := 42) rfl (by decide) ?_
                                    exact ih42 _ (by omega) (k42_4 + 1) (some (pw_i ((12 * k42_4) + a0))) (some (pw_i ((12 * k42_4) + a1))) (some (pw_i x57)) (some (pw_i x57)) (some (pw_i 0)) h199 h199I h199F (by omega) (by omega) (by omega) (by omega) (by omega) rfl
                                · intro hc202
                                  change ¬ (x57 ≤ x57) at hc202
                                  refine pw_ld E (pc' := 191) (st' := [pw_i 1, pw_i 0, pw_i 0, .ref 141]) rfl (fun _ => rfl) ?_
                                  refine pw_goto E (pc' := 195) rfl (by decide) ?_
                                  refine pw_if2 E (pc' := 204) rfl (by decide) (by decide) (by decide) (by decide) (by decide) ?_ ?_
                                  · intro hc203
                                    change (0 : Int) ≠ (1 : Int) at hc203
                                    refine pw_ld E (pc' := 206) (st' := [pw_i x57, pw_i 0, .ref 141]) rfl (fun _ => rfl) ?_
                                    refine pw_i2l E (pc' := 207) rfl rfl (by omega) (by omega) ?_
                                    obtain ⟨f204l, f204h, -⟩ := pw_obj (c := 125) I42 rfl
                                    refine pw_call (m' := 220) (As := [.ref 141, pw_i 0, .long (Int64.ofInt x57)]) (rest := []) (ls'' := [some (.ref 141), some (pw_i 0), some (.long (Int64.ofInt x57)), none]) (Nat.le_trans (by decide) hd) E rfl (fun _ => pw_iV rfl rfl rfl rfl (pw_cellI f204h rfl)) (rfl : pm_ent 220 = some (3, 4, 12, 4, pmc_220)) rfl rfl (cm_220 (pw_dp hd (by decide)) I42 (0) (by omega) (by omega) (Int64.ofInt x57) (by omega) (by omega) (by omega)) ?_
                                    rintro h205 v206 ⟨h205I, h205E, hq207, rfl⟩
                                    refine ⟨_, rfl, ?_⟩
                                    have h205F := E42.tr (h205E.wk (W' := [125]) (by first | rfl | simp))
                                    show pw X d h205 303 210 [some (.ref 141), some (pw_i a0), some (pw_i a1), some (pw_i a2), some (pw_i k42_4), some (pw_i ((12 * k42_4) + a0)), some (pw_i ((12 * k42_4) + a1)), some (pw_i x57), some (pw_i x57), some (pw_i 0)] [] _
                                    refine pw_inc E (pc' := 213) (ls' := [some (.ref 141), some (pw_i a0), some (pw_i a1), some (pw_i a2), some (pw_i (k42_4 + 1)), some (pw_i ((12 * k42_4) + a0)), some (pw_i ((12 * k42_4) + a1)), some (pw_i x57), some (pw_i x57), some (pw_i 0)]) rfl rfl rfl rfl ?_
                                    refine pw_goto E (pc' := 42) rfl (by decide) ?_
                                    exact ih42 _ (by omega) (k42_4 + 1) (some (pw_i ((12 * k42_4) + a0))) (some (pw_i ((12 * k42_4) + a1))) (some (pw_i x57)) (some (pw_i x57)) (some (pw_i 0)) h205 h205I h205F (by omega) (by omega) (by omega) (by omega) (by omega) rfl
                                  · intro hc208
                                    change ¬ ((0 : Int) ≠ (1 : Int)) at hc208
                                    exfalso; omega
                              · intro hc209
                                change ¬ (pw_g gh42 132 (k42_4.toNat) ≠ (0 : Int)) at hc209
                                exfalso; omega
                            · intro hc210
                              change ¬ ((1 : Int) ≠ (0 : Int)) at hc210
                              exfalso; omega
                          · intro hc211
                            change ¬ (pw_g gh42 132 (k42_4.toNat) ≠ (0 : Int)) at hc211
                            refine pw_ld E (pc' := 151) (st' := [pw_i 1, pw_i 1]) rfl (fun _ => rfl) ?_
                            refine pw_goto E (pc' := 155) rfl (by decide) ?_
                            refine pw_if2 E (pc' := 162) rfl (by decide) (by decide) (by decide) (by decide) (by decide) ?_ ?_
                            · intro hc212
                              change (1 : Int) ≠ (1 : Int) at hc212
                              exfalso; omega
                            · intro hc213
                              change ¬ ((1 : Int) ≠ (1 : Int)) at hc213
                              refine pw_ld E (pc' := 159) (st' := [pw_i 1]) rfl (fun _ => rfl) ?_
                              refine pw_goto E (pc' := 163) rfl (by decide) ?_
                              refine pw_ist E (pc' := 165) (ls' := [some (.ref 141), some (pw_i a0), some (pw_i a1), some (pw_i a2), some (pw_i k42_4), some (pw_i ((12 * k42_4) + a0)), some (pw_i ((12 * k42_4) + a1)), some (pw_i x57), some (pw_i x57), some (pw_i 1)]) rfl rfl rfl rfl ?_
                              refine pw_ld E (pc' := 166) (st' := [.ref 141]) rfl (fun _ => rfl) ?_
                              refine pw_ld E (pc' := 167) (st' := [.ref 141, .ref 141]) rfl (fun _ => rfl) ?_
                              refine pw_getR (b := 148) I42 E (c := 125) (k := 11) (pc' := 170) rfl rfl rfl rfl rfl rfl rfl ?_
                              refine pw_ld E (pc' := 172) (st' := [pw_i k42_4, .ref 148, .ref 141]) rfl (fun _ => rfl) ?_
                              refine pw_ald2 I42 E (c := 132) (pc' := 173) rfl rfl rfl (by decide) rfl (by decide) (by omega) (by omega) rfl (fun hf214a hf214b => ?_)
                              refine pw_if E (pc' := 180) rfl (by decide) (by omega) (by omega) ?_ ?_
                              · intro hc215
                                change pw_g gh42 132 (k42_4.toNat) ≠ (0 : Int) at hc215
                                exfalso; omega
                              · intro hc216
                                change ¬ (pw_g gh42 132 (k42_4.toNat) ≠ (0 : Int)) at hc216
                                refine pw_ld E (pc' := 177) (st' := [pw_i 1, .ref 141]) rfl (fun _ => rfl) ?_
                                refine pw_goto E (pc' := 181) rfl (by decide) ?_
                                refine pw_ld E (pc' := 183) (st' := [pw_i 1, pw_i 1, .ref 141]) rfl (fun _ => rfl) ?_
                                refine pw_ld E (pc' := 185) (st' := [pw_i x57, pw_i 1, pw_i 1, .ref 141]) rfl (fun _ => rfl) ?_
                                refine pw_ld E (pc' := 187) (st' := [pw_i x57, pw_i x57, pw_i 1, pw_i 1, .ref 141]) rfl (fun _ => rfl) ?_
                                refine pw_if2 E (pc' := 194) rfl (by decide) (by omega) (by omega) (by omega) (by omega) ?_ ?_
                                · intro hc217
                                  change x57 ≤ x57 at hc217
                                  refine pw_ld E (pc' := 195) (st' := [pw_i 0, pw_i 1, pw_i 1, .ref 141]) rfl (fun _ => rfl) ?_
                                  refine pw_if2 E (pc' := 204) rfl (by decide) (by decide) (by decide) (by decide) (by decide) ?_ ?_
                                  · intro hc218
                                    change (1 : Int) ≠ (0 : Int) at hc218
                                    refine pw_ld E (pc' := 206) (st' := [pw_i x57, pw_i 1, .ref 141]) rfl (fun _ => rfl) ?_
                                    refine pw_i2l E (pc' := 207) rfl rfl (by omega) (by omega) ?_
                                    obtain ⟨f219l, f219h, -⟩ := pw_obj (c := 125) I42 rfl
                                    refine pw_call (m' := 220) (As := [.ref 141, pw_i 1, .long (Int64.ofInt x57)]) (rest := []) (ls'' := [some (.ref 141), some (pw_i 1), some (.long (Int64.ofInt x57)), none]) (Nat.le_trans (by decide) hd) E rfl (fun _ => pw_iV rfl rfl rfl rfl (pw_cellI f219h rfl)) (rfl : pm_ent 220 = some (3, 4, 12, 4, pmc_220)) rfl rfl (cm_220 (pw_dp hd (by decide)) I42 (1) (by omega) (by omega) (Int64.ofInt x57) (by omega) (by omega) (by omega)) ?_
                                    rintro h220 v221 ⟨h220I, h220E, hq222, rfl⟩
                                    refine ⟨_, rfl, ?_⟩
                                    have h220F := E42.tr (h220E.wk (W' := [125]) (by first | rfl | simp))
                                    show pw X d h220 303 210 [some (.ref 141), some (pw_i a0), some (pw_i a1), some (pw_i a2), some (pw_i k42_4), some (pw_i ((12 * k42_4) + a0)), some (pw_i ((12 * k42_4) + a1)), some (pw_i x57), some (pw_i x57), some (pw_i 1)] [] _
                                    refine pw_inc E (pc' := 213) (ls' := [some (.ref 141), some (pw_i a0), some (pw_i a1), some (pw_i a2), some (pw_i (k42_4 + 1)), some (pw_i ((12 * k42_4) + a0)), some (pw_i ((12 * k42_4) + a1)), some (pw_i x57), some (pw_i x57), some (pw_i 1)]) rfl rfl rfl rfl ?_
                                    refine pw_goto E (pc' := 42) rfl (by decide) ?_
                                    exact ih42 _ (by omega) (k42_4 + 1) (some (pw_i ((12 * k42_4) + a0))) (some (pw_i ((12 * k42_4) + a1))) (some (pw_i x57)) (some (pw_i x57)) (some (pw_i 1)) h220 h220I h220F (by omega) (by omega) (by omega) (by omega) (by omega) rfl
                                  · intro hc223
                                    change ¬ ((1 : Int) ≠ (0 : Int)) at hc223
                                    exfalso; omega
                                · intro hc224
                                  change ¬ (x57 ≤ x57) at hc224
                                  refine pw_ld E (pc' := 191) (st' := [pw_i 1, pw_i 1, pw_i 1, .ref 141]) rfl (fun _ => rfl) ?_
                                  refine pw_goto E (pc' := 195) rfl (by decide) ?_
                                  refine pw_if2 E (pc' := 204) rfl (by decide) (by decide) (by decide) (by decide) (by decide) ?_ ?_
                                  · intro hc225
                                    change (1 : Int) ≠ (1 : Int) at hc225
                                    exfalso; omega
                                  · intro hc226
                                    change ¬ ((1 : Int) ≠ (1 : Int)) at hc226
                                    refine pw_ld E (pc' := 200) (st' := [pw_i x57, pw_i 1, .ref 141]) rfl (fun _ => rfl) ?_
                                    refine pw_i2l E (pc' := 201) rfl rfl (by omega) (by omega) ?_
                                    refine pw_goto E (pc' := 207) rfl (by decide) ?_
                                    obtain ⟨f227l, f227h, -⟩ := pw_obj (c := 125) I42 rfl
                                    refine pw_call (m' := 220) (As := [.ref 141, pw_i 1, .long (Int64.ofInt x57)]) (rest := []) (ls'' := [some (.ref 141), some (pw_i 1), some (.long (Int64.ofInt x57)), none]) (Nat.le_trans (by decide) hd) E rfl (fun _ => pw_iV rfl rfl rfl rfl (pw_cellI f227h rfl)) (rfl : pm_ent 220 = some (3, 4, 12, 4, pmc_220)) rfl rfl (cm_220 (pw_dp hd (by decide)) I42 (1) (by omega) (by omega) (Int64.ofInt x57) (by omega) (by omega) (by omega)) ?_
                                    rintro h228 v229 ⟨h228I, h228E, hq230, rfl⟩
                                    refine ⟨_, rfl, ?_⟩
                                    have h228F := E42.tr (h228E.wk (W' := [125]) (by first | rfl | simp))
                                    show pw X d h228 303 210 [some (.ref 141), some (pw_i a0), some (pw_i a1), some (pw_i a2), some (pw_i k42_4), some (pw_i ((12 * k42_4) + a0)), some (pw_i ((12 * k42_4) + a1)), some (pw_i x57), some (pw_i x57), some (pw_i 1)] [] _
                                    refine pw_inc E (pc' := 213) (ls' := [some (.ref 141), some (pw_i a0), some (pw_i a1), some (pw_i a2), some (pw_i (k42_4 + 1)), some (pw_i ((12 * k42_4) + a0)), some (pw_i ((12 * k42_4) + a1)), some (pw_i x57), some (pw_i x57), some (pw_i 1)]) rfl rfl rfl rfl ?_
                                    refine pw_goto E (pc' := 42) rfl (by decide) ?_
                                    exact ih42 _ (by omega) (k42_4 + 1) (some (pw_i ((12 * k42_4) + a0))) (some (pw_i ((12 * k42_4) + a1))) (some (pw_i x57)) (some (pw_i x57)) (some (pw_i 1)) h228 h228I h228F (by omega) (by omega) (by omega) (by omega) (by omega) rfl
                      · intro hc231
                        change ¬ (pw_g gh42 141 (((12 * k42_4) + a1).toNat) ≠ (1 : Int)) at hc231
                        refine pw_ld E (pc' := 111) (st' := [.ref 141]) rfl (fun _ => rfl) ?_
                        refine pw_ld E (pc' := 113) (st' := [pw_i ((12 * k42_4) + a1), .ref 141]) rfl (fun _ => rfl) ?_
                        obtain ⟨f232l, f232h, -⟩ := pw_obj (c := 125) I42 rfl
                        refine pw_call (m' := 302) (As := [.ref 141, pw_i ((12 * k42_4) + a1)]) (rest := []) (ls'' := [some (.ref 141), some (pw_i ((12 * k42_4) + a1))]) (Nat.le_trans (by decide) hd) E rfl (fun _ => pw_iV rfl rfl rfl rfl (pw_cellI f232h rfl)) (rfl : pm_ent 302 = some (2, 2, 12, 0, pmc_302)) rfl rfl (cm_302 (pw_dp hd (by decide)) I42 ((12 * k42_4) + a1) (by omega) (by omega)) ?_
                        rintro u234 v233 ⟨rfl, x235, rfl, hx235a, hx235b⟩
                        refine ⟨_, rfl, ?_⟩
                        show pw X d gh42 303 116 [some (.ref 141), some (pw_i a0), some (pw_i a1), some (pw_i a2), some (pw_i k42_4), some (pw_i ((12 * k42_4) + a0)), some (pw_i ((12 * k42_4) + a1)), some (pw_i x57), k42_8, k42_9] [pw_i x235] _
                        refine pw_ld E (pc' := 117) (st' := [.ref 141, pw_i x235]) rfl (fun _ => rfl) ?_
                        refine pw_ld E (pc' := 119) (st' := [pw_i ((12 * k42_4) + a0), .ref 141, pw_i x235]) rfl (fun _ => rfl) ?_
                        obtain ⟨f236l, f236h, -⟩ := pw_obj (c := 125) I42 rfl
                        refine pw_call (m' := 302) (As := [.ref 141, pw_i ((12 * k42_4) + a0)]) (rest := [pw_i x235]) (ls'' := [some (.ref 141), some (pw_i ((12 * k42_4) + a0))]) (Nat.le_trans (by decide) hd) E rfl (fun _ => pw_iV rfl rfl rfl rfl (pw_cellI f236h rfl)) (rfl : pm_ent 302 = some (2, 2, 12, 0, pmc_302)) rfl rfl (cm_302 (pw_dp hd (by decide)) I42 ((12 * k42_4) + a0) (by omega) (by omega)) ?_
                        rintro u238 v237 ⟨rfl, x239, rfl, hx239a, hx239b⟩
                        refine ⟨_, rfl, ?_⟩
                        show pw X d gh42 303 122 [some (.ref 141), some (pw_i a0), some (pw_i a1), some (pw_i a2), some (pw_i k42_4), some (pw_i ((12 * k42_4) + a0)), some (pw_i ((12 * k42_4) + a1)), some (pw_i x57), k42_8, k42_9] [pw_i x239, pw_i x235] _
                        refine pw_sub E (pc' := 123) rfl rfl ?_
                        refine pw_nm (fun x240 hx240a hx240b => ?_)
                        refine pw_goto E (pc' := 128) rfl (by decide) ?_
                        refine pw_ist E (pc' := 130) (ls' := [some (.ref 141), some (pw_i a0), some (pw_i a1), some (pw_i a2), some (pw_i k42_4), some (pw_i ((12 * k42_4) + a0)), some (pw_i ((12 * k42_4) + a1)), some (pw_i x57), some (pw_i x240), k42_9]) rfl rfl rfl rfl ?_
                        refine pw_ld E (pc' := 131) (st' := [pw_i a2]) rfl (fun _ => rfl) ?_
                        refine pw_ld E (pc' := 132) (st' := [pw_i 2, pw_i a2]) rfl (fun _ => rfl) ?_
                        refine pw_if2 E (pc' := 139) rfl (by decide) (by omega) (by omega) (by decide) (by decide) ?_ ?_
                        · intro hc241
                          change (2 : Int) ≤ a2 at hc241
                          refine pw_ld E (pc' := 140) (st' := [pw_i 0]) rfl (fun _ => rfl) ?_
                          refine pw_ld E (pc' := 141) (st' := [.ref 141, pw_i 0]) rfl (fun _ => rfl) ?_
                          refine pw_getR (b := 148) I42 E (c := 125) (k := 11) (pc' := 144) rfl rfl rfl rfl rfl rfl rfl ?_
                          refine pw_ld E (pc' := 146) (st' := [pw_i k42_4, .ref 148, pw_i 0]) rfl (fun _ => rfl) ?_
                          refine pw_ald2 I42 E (c := 132) (pc' := 147) rfl rfl rfl (by decide) rfl (by decide) (by omega) (by omega) rfl (fun hf242a hf242b => ?_)
                          refine pw_if E (pc' := 154) rfl (by decide) (by omega) (by omega) ?_ ?_
                          · intro hc243
                            change pw_g gh42 132 (k42_4.toNat) ≠ (0 : Int) at hc243
                            refine pw_ld E (pc' := 155) (st' := [pw_i 0, pw_i 0]) rfl (fun _ => rfl) ?_
                            refine pw_if2 E (pc' := 162) rfl (by decide) (by decide) (by decide) (by decide) (by decide) ?_ ?_
                            · intro hc244
                              change (0 : Int) ≠ (0 : Int) at hc244
                              exfalso; omega
                            · intro hc245
                              change ¬ ((0 : Int) ≠ (0 : Int)) at hc245
                              refine pw_ld E (pc' := 159) (st' := [pw_i 1]) rfl (fun _ => rfl) ?_
                              refine pw_goto E (pc' := 163) rfl (by decide) ?_
                              refine pw_ist E (pc' := 165) (ls' := [some (.ref 141), some (pw_i a0), some (pw_i a1), some (pw_i a2), some (pw_i k42_4), some (pw_i ((12 * k42_4) + a0)), some (pw_i ((12 * k42_4) + a1)), some (pw_i x57), some (pw_i x240), some (pw_i 1)]) rfl rfl rfl rfl ?_
                              refine pw_ld E (pc' := 166) (st' := [.ref 141]) rfl (fun _ => rfl) ?_
                              refine pw_ld E (pc' := 167) (st' := [.ref 141, .ref 141]) rfl (fun _ => rfl) ?_
                              refine pw_getR (b := 148) I42 E (c := 125) (k := 11) (pc' := 170) rfl rfl rfl rfl rfl rfl rfl ?_
                              refine pw_ld E (pc' := 172) (st' := [pw_i k42_4, .ref 148, .ref 141]) rfl (fun _ => rfl) ?_
                              refine pw_ald2 I42 E (c := 132) (pc' := 173) rfl rfl rfl (by decide) rfl (by decide) (by omega) (by omega) rfl (fun hf246a hf246b => ?_)
                              refine pw_if E (pc' := 180) rfl (by decide) (by omega) (by omega) ?_ ?_
                              · intro hc247
                                change pw_g gh42 132 (k42_4.toNat) ≠ (0 : Int) at hc247
                                refine pw_ld E (pc' := 181) (st' := [pw_i 0, .ref 141]) rfl (fun _ => rfl) ?_
                                refine pw_ld E (pc' := 183) (st' := [pw_i 1, pw_i 0, .ref 141]) rfl (fun _ => rfl) ?_
                                refine pw_ld E (pc' := 185) (st' := [pw_i x57, pw_i 1, pw_i 0, .ref 141]) rfl (fun _ => rfl) ?_
                                refine pw_ld E (pc' := 187) (st' := [pw_i x240, pw_i x57, pw_i 1, pw_i 0, .ref 141]) rfl (fun _ => rfl) ?_
                                refine pw_if2 E (pc' := 194) rfl (by decide) (by omega) (by omega) (by omega) (by omega) ?_ ?_
                                · intro hc248
                                  change x240 ≤ x57 at hc248
                                  refine pw_ld E (pc' := 195) (st' := [pw_i 0, pw_i 1, pw_i 0, .ref 141]) rfl (fun _ => rfl) ?_
                                  refine pw_if2 E (pc' := 204) rfl (by decide) (by decide) (by decide) (by decide) (by decide) ?_ ?_
                                  · intro hc249
                                    change (1 : Int) ≠ (0 : Int) at hc249
                                    refine pw_ld E (pc' := 206) (st' := [pw_i x240, pw_i 0, .ref 141]) rfl (fun _ => rfl) ?_
                                    refine pw_i2l E (pc' := 207) rfl rfl (by omega) (by omega) ?_
                                    obtain ⟨f250l, f250h, -⟩ := pw_obj (c := 125) I42 rfl
                                    refine pw_call (m' := 220) (As := [.ref 141, pw_i 0, .long (Int64.ofInt x240)]) (rest := []) (ls'' := [some (.ref 141), some (pw_i 0), some (.long (Int64.ofInt x240)), none]) (Nat.le_trans (by decide) hd) E rfl (fun _ => pw_iV rfl rfl rfl rfl (pw_cellI f250h rfl)) (rfl : pm_ent 220 = some (3, 4, 12, 4, pmc_220)) rfl rfl (cm_220 (pw_dp hd (by decide)) I42 (0) (by omega) (by omega) (Int64.ofInt x240) (by omega) (by omega) (by omega)) ?_
                                    rintro h251 v252 ⟨h251I, h251E, hq253, rfl⟩
                                    refine ⟨_, rfl, ?_⟩
                                    have h251F := E42.tr (h251E.wk (W' := [125]) (by first | rfl | simp))
                                    show pw X d h251 303 210 [some (.ref 141), some (pw_i a0), some (pw_i a1), some (pw_i a2), some (pw_i k42_4), some (pw_i ((12 * k42_4) + a0)), some (pw_i ((12 * k42_4) + a1)), some (pw_i x57), some (pw_i x240), some (pw_i 1)] [] _
                                    refine pw_inc E (pc' := 213) (ls' := [some (.ref 141), some (pw_i a0), some (pw_i a1), some (pw_i a2), some (pw_i (k42_4 + 1)), some (pw_i ((12 * k42_4) + a0)), some (pw_i ((12 * k42_4) + a1)), some (pw_i x57), some (pw_i x240), some (pw_i 1)]) rfl rfl rfl rfl ?_
                                    refine pw_goto E (pc' := 42) rfl (by decide) ?_
                                    exact ih42 _ (by omega) (k42_4 + 1) (some (pw_i ((12 * k42_4) + a0))) (some (pw_i ((12 * k42_4) + a1))) (some (pw_i x57)) (some (pw_i x240)) (some (pw_i 1)) h251 h251I h251F (by omega) (by omega) (by omega) (by omega) (by omega) rfl
                                  · intro hc254
                                    change ¬ ((1 : Int) ≠ (0 : Int)) at hc254
                                    exfalso; omega
                                · intro hc255
                                  change ¬ (x240 ≤ x57) at hc255
                                  refine pw_ld E (pc' := 191) (st' := [pw_i 1, pw_i 1, pw_i 0, .ref 141]) rfl (fun _ => rfl) ?_
                                  refine pw_goto E (pc' := 195) rfl (by decide) ?_
                                  refine pw_if2 E (pc' := 204) rfl (by decide) (by decide) (by decide) (by decide) (by decide) ?_ ?_
                                  · intro hc256
                                    change (1 : Int) ≠ (1 : Int) at hc256
                                    exfalso; omega
                                  · intro hc257
                                    change ¬ ((1 : Int) ≠ (1 : Int)) at hc257
                                    refine pw_ld E (pc' := 200) (st' := [pw_i x57, pw_i 0, .ref 141]) rfl (fun _ => rfl) ?_
                                    refine pw_i2l E (pc' := 201) rfl rfl (by omega) (by omega) ?_
                                    refine pw_goto E (pc' := 207) rfl (by decide) ?_
                                    obtain ⟨f258l, f258h, -⟩ := pw_obj (c := 125) I42 rfl
                                    refine pw_call (m' := 220) (As := [.ref 141, pw_i 0, .long (Int64.ofInt x57)]) (rest := []) (ls'' := [some (.ref 141), some (pw_i 0), some (.long (Int64.ofInt x57)), none]) (Nat.le_trans (by decide) hd) E rfl (fun _ => pw_iV rfl rfl rfl rfl (pw_cellI f258h rfl)) (rfl : pm_ent 220 = some (3, 4, 12, 4, pmc_220)) rfl rfl (cm_220 (pw_dp hd (by decide)) I42 (0) (by omega) (by omega) (Int64.ofInt x57) (by omega) (by omega) (by omega)) ?_
                                    rintro h259 v260 ⟨h259I, h259E, hq261, rfl⟩
                                    refine ⟨_, rfl, ?_⟩
                                    have h259F := E42.tr (h259E.wk (W' := [125]) (by first | rfl | simp))
                                    show pw X d h259 303 210 [some (.ref 141), some (pw_i a0), some (pw_i a1), some (pw_i a2), some (pw_i k42_4), some (pw_i ((12 * k42_4) + a0)), some (pw_i ((12 * k42_4) + a1)), some (pw_i x57), some (pw_i x240), some (pw_i 1)] [] _
                                    refine pw_inc E (pc' := 213) (ls' := [some (.ref 141), some (pw_i a0), some (pw_i a1), some (pw_i a2), some (pw_i (k42_4 + 1)), some (pw_i ((12 * k42_4) + a0)), some (pw_i ((12 * k42_4) + a1)), some (pw_i x57), some (pw_i x240), some (pw_i 1)]) rfl rfl rfl rfl ?_
                                    refine pw_goto E (pc' := 42) rfl (by decide) ?_
                                    exact ih42 _ (by omega) (k42_4 + 1) (some (pw_i ((12 * k42_4) + a0))) (some (pw_i ((12 * k42_4) + a1))) (some (pw_i x57)) (some (pw_i x240)) (some (pw_i 1)) h259 h259I h259F (by omega) (by omega) (by omega) (by omega) (by omega) rfl
                              · intro hc262
                                change ¬ (pw_g gh42 132 (k42_4.toNat) ≠ (0 : Int)) at hc262
                                exfalso; omega
                          · intro hc263
                            change ¬ (pw_g gh42 132 (k42_4.toNat) ≠ (0 : Int)) at hc263
                            refine pw_ld E (pc' := 151) (st' := [pw_i 1, pw_i 0]) rfl (fun _ => rfl) ?_
                            refine pw_goto E (pc' := 155) rfl (by decide) ?_
                            refine pw_if2 E (pc' := 162) rfl (by decide) (by decide) (by decide) (by decide) (by decide) ?_ ?_
                            · intro hc264
                              change (0 : Int) ≠ (1 : Int) at hc264
                              refine pw_ld E (pc' := 163) (st' := [pw_i 0]) rfl (fun _ => rfl) ?_
                              refine pw_ist E (pc' := 165) (ls' := [some (.ref 141), some (pw_i a0), some (pw_i a1), some (pw_i a2), some (pw_i k42_4), some (pw_i ((12 * k42_4) + a0)), some (pw_i ((12 * k42_4) + a1)), some (pw_i x57), some (pw_i x240), some (pw_i 0)]) rfl rfl rfl rfl ?_
                              refine pw_ld E (pc' := 166) (st' := [.ref 141]) rfl (fun _ => rfl) ?_
                              refine pw_ld E (pc' := 167) (st' := [.ref 141, .ref 141]) rfl (fun _ => rfl) ?_
                              refine pw_getR (b := 148) I42 E (c := 125) (k := 11) (pc' := 170) rfl rfl rfl rfl rfl rfl rfl ?_
                              refine pw_ld E (pc' := 172) (st' := [pw_i k42_4, .ref 148, .ref 141]) rfl (fun _ => rfl) ?_
                              refine pw_ald2 I42 E (c := 132) (pc' := 173) rfl rfl rfl (by decide) rfl (by decide) (by omega) (by omega) rfl (fun hf265a hf265b => ?_)
                              refine pw_if E (pc' := 180) rfl (by decide) (by omega) (by omega) ?_ ?_
                              · intro hc266
                                change pw_g gh42 132 (k42_4.toNat) ≠ (0 : Int) at hc266
                                exfalso; omega
                              · intro hc267
                                change ¬ (pw_g gh42 132 (k42_4.toNat) ≠ (0 : Int)) at hc267
                                refine pw_ld E (pc' := 177) (st' := [pw_i 1, .ref 141]) rfl (fun _ => rfl) ?_
                                refine pw_goto E (pc' := 181) rfl (by decide) ?_
                                refine pw_ld E (pc' := 183) (st' := [pw_i 0, pw_i 1, .ref 141]) rfl (fun _ => rfl) ?_
                                refine pw_ld E (pc' := 185) (st' := [pw_i x57, pw_i 0, pw_i 1, .ref 141]) rfl (fun _ => rfl) ?_
                                refine pw_ld E (pc' := 187) (st' := [pw_i x240, pw_i x57, pw_i 0, pw_i 1, .ref 141]) rfl (fun _ => rfl) ?_
                                refine pw_if2 E (pc' := 194) rfl (by decide) (by omega) (by omega) (by omega) (by omega) ?_ ?_
                                · intro hc268
                                  change x240 ≤ x57 at hc268
                                  refine pw_ld E (pc' := 195) (st' := [pw_i 0, pw_i 0, pw_i 1, .ref 141]) rfl (fun _ => rfl) ?_
                                  refine pw_if2 E (pc' := 204) rfl (by decide) (by decide) (by decide) (by decide) (by decide) ?_ ?_
                                  · intro hc269
                                    change (0 : Int) ≠ (0 : Int) at hc269
                                    exfalso; omega
                                  · intro hc270
                                    change ¬ ((0 : Int) ≠ (0 : Int)) at hc270
                                    refine pw_ld E (pc' := 200) (st' := [pw_i x57, pw_i 1, .ref 141]) rfl (fun _ => rfl) ?_
                                    refine pw_i2l E (pc' := 201) rfl rfl (by omega) (by omega) ?_
                                    refine pw_goto E (pc' := 207) rfl (by decide) ?_
                                    obtain ⟨f271l, f271h, -⟩ := pw_obj (c := 125) I42 rfl
                                    refine pw_call (m' := 220) (As := [.ref 141, pw_i 1, .long (Int64.ofInt x57)]) (rest := []) (ls'' := [some (.ref 141), some (pw_i 1), some (.long (Int64.ofInt x57)), none]) (Nat.le_trans (by decide) hd) E rfl (fun _ => pw_iV rfl rfl rfl rfl (pw_cellI f271h rfl)) (rfl : pm_ent 220 = some (3, 4, 12, 4, pmc_220)) rfl rfl (cm_220 (pw_dp hd (by decide)) I42 (1) (by omega) (by omega) (Int64.ofInt x57) (by omega) (by omega) (by omega)) ?_
                                    rintro h272 v273 ⟨h272I, h272E, hq274, rfl⟩
                                    refine ⟨_, rfl, ?_⟩
                                    have h272F := E42.tr (h272E.wk (W' := [125]) (by first | rfl | simp))
                                    show pw X d h272 303 210 [some (.ref 141), some (pw_i a0), some (pw_i a1), some (pw_i a2), some (pw_i k42_4), some (pw_i ((12 * k42_4) + a0)), some (pw_i ((12 * k42_4) + a1)), some (pw_i x57), some (pw_i x240), some (pw_i 0)] [] _
                                    refine pw_inc E (pc' := 213) (ls' := [some (.ref 141), some (pw_i a0), some (pw_i a1), some (pw_i a2), some (pw_i (k42_4 + 1)), some (pw_i ((12 * k42_4) + a0)), some (pw_i ((12 * k42_4) + a1)), some (pw_i x57), some (pw_i x240), some (pw_i 0)]) rfl rfl rfl rfl ?_
                                    refine pw_goto E (pc' := 42) rfl (by decide) ?_
                                    exact ih42 _ (by omega) (k42_4 + 1) (some (pw_i ((12 * k42_4) + a0))) (some (pw_i ((12 * k42_4) + a1))) (some (pw_i x57)) (some (pw_i x240)) (some (pw_i 0)) h272 h272I h272F (by omega) (by omega) (by omega) (by omega) (by omega) rfl
                                · intro hc275
                                  change ¬ (x240 ≤ x57) at hc275
                                  refine pw_ld E (pc' := 191) (st' := [pw_i 1, pw_i 0, pw_i 1, .ref 141]) rfl (fun _ => rfl) ?_
                                  refine pw_goto E (pc' := 195) rfl (by decide) ?_
                                  refine pw_if2 E (pc' := 204) rfl (by decide) (by decide) (by decide) (by decide) (by decide) ?_ ?_
                                  · intro hc276
                                    change (0 : Int) ≠ (1 : Int) at hc276
                                    refine pw_ld E (pc' := 206) (st' := [pw_i x240, pw_i 1, .ref 141]) rfl (fun _ => rfl) ?_
                                    refine pw_i2l E (pc' := 207) rfl rfl (by omega) (by omega) ?_
                                    obtain ⟨f277l, f277h, -⟩ := pw_obj (c := 125) I42 rfl
                                    refine pw_call (m' := 220) (As := [.ref 141, pw_i 1, .long (Int64.ofInt x240)]) (rest := []) (ls'' := [some (.ref 141), some (pw_i 1), some (.long (Int64.ofInt x240)), none]) (Nat.le_trans (by decide) hd) E rfl (fun _ => pw_iV rfl rfl rfl rfl (pw_cellI f277h rfl)) (rfl : pm_ent 220 = some (3, 4, 12, 4, pmc_220)) rfl rfl (cm_220 (pw_dp hd (by decide)) I42 (1) (by omega) (by omega) (Int64.ofInt x240) (by omega) (by omega) (by omega)) ?_
                                    rintro h278 v279 ⟨h278I, h278E, hq280, rfl⟩
                                    refine ⟨_, rfl, ?_⟩
                                    have h278F := E42.tr (h278E.wk (W' := [125]) (by first | rfl | simp))
                                    show pw X d h278 303 210 [some (.ref 141), some (pw_i a0), some (pw_i a1), some (pw_i a2), some (pw_i k42_4), some (pw_i ((12 * k42_4) + a0)), some (pw_i ((12 * k42_4) + a1)), some (pw_i x57), some (pw_i x240), some (pw_i 0)] [] _
                                    refine pw_inc E (pc' := 213) (ls' := [some (.ref 141), some (pw_i a0), some (pw_i a1), some (pw_i a2), some (pw_i (k42_4 + 1)), some (pw_i ((12 * k42_4) + a0)), some (pw_i ((12 * k42_4) + a1)), some (pw_i x57), some (pw_i x240), some (pw_i 0)]) rfl rfl rfl rfl ?_
                                    refine pw_goto E (pc' := 42) rfl (by decide) ?_
                                    exact ih42 _ (by omega) (k42_4 + 1) (some (pw_i ((12 * k42_4) + a0))) (some (pw_i ((12 * k42_4) + a1))) (some (pw_i x57)) (some (pw_i x240)) (some (pw_i 0)) h278 h278I h278F (by omega) (by omega) (by omega) (by omega) (by omega) rfl
                                  · intro hc281
                                    change ¬ ((0 : Int) ≠ (1 : Int)) at hc281
                                    exfalso; omega
                            · intro hc282
                              change ¬ ((0 : Int) ≠ (1 : Int)) at hc282
                              exfalso; omega
                        · intro hc283
                          change ¬ ((2 : Int) ≤ a2) at hc283
                          refine pw_ld E (pc' := 136) (st' := [pw_i 1]) rfl (fun _ => rfl) ?_
                          refine pw_goto E (pc' := 140) rfl (by decide) ?_
                          refine pw_ld E (pc' := 141) (st' := [.ref 141, pw_i 1]) rfl (fun _ => rfl) ?_
                          refine pw_getR (b := 148) I42 E (c := 125) (k := 11) (pc' := 144) rfl rfl rfl rfl rfl rfl rfl ?_
                          refine pw_ld E (pc' := 146) (st' := [pw_i k42_4, .ref 148, pw_i 1]) rfl (fun _ => rfl) ?_
                          refine pw_ald2 I42 E (c := 132) (pc' := 147) rfl rfl rfl (by decide) rfl (by decide) (by omega) (by omega) rfl (fun hf284a hf284b => ?_)
                          refine pw_if E (pc' := 154) rfl (by decide) (by omega) (by omega) ?_ ?_
                          · intro hc285
                            change pw_g gh42 132 (k42_4.toNat) ≠ (0 : Int) at hc285
                            refine pw_ld E (pc' := 155) (st' := [pw_i 0, pw_i 1]) rfl (fun _ => rfl) ?_
                            refine pw_if2 E (pc' := 162) rfl (by decide) (by decide) (by decide) (by decide) (by decide) ?_ ?_
                            · intro hc286
                              change (1 : Int) ≠ (0 : Int) at hc286
                              refine pw_ld E (pc' := 163) (st' := [pw_i 0]) rfl (fun _ => rfl) ?_
                              refine pw_ist E (pc' := 165) (ls' := [some (.ref 141), some (pw_i a0), some (pw_i a1), some (pw_i a2), some (pw_i k42_4), some (pw_i ((12 * k42_4) + a0)), some (pw_i ((12 * k42_4) + a1)), some (pw_i x57), some (pw_i x240), some (pw_i 0)]) rfl rfl rfl rfl ?_
                              refine pw_ld E (pc' := 166) (st' := [.ref 141]) rfl (fun _ => rfl) ?_
                              refine pw_ld E (pc' := 167) (st' := [.ref 141, .ref 141]) rfl (fun _ => rfl) ?_
                              refine pw_getR (b := 148) I42 E (c := 125) (k := 11) (pc' := 170) rfl rfl rfl rfl rfl rfl rfl ?_
                              refine pw_ld E (pc' := 172) (st' := [pw_i k42_4, .ref 148, .ref 141]) rfl (fun _ => rfl) ?_
                              refine pw_ald2 I42 E (c := 132) (pc' := 173) rfl rfl rfl (by decide) rfl (by decide) (by omega) (by omega) rfl (fun hf287a hf287b => ?_)
                              refine pw_if E (pc' := 180) rfl (by decide) (by omega) (by omega) ?_ ?_
                              · intro hc288
                                change pw_g gh42 132 (k42_4.toNat) ≠ (0 : Int) at hc288
                                refine pw_ld E (pc' := 181) (st' := [pw_i 0, .ref 141]) rfl (fun _ => rfl) ?_
                                refine pw_ld E (pc' := 183) (st' := [pw_i 0, pw_i 0, .ref 141]) rfl (fun _ => rfl) ?_
                                refine pw_ld E (pc' := 185) (st' := [pw_i x57, pw_i 0, pw_i 0, .ref 141]) rfl (fun _ => rfl) ?_
                                refine pw_ld E (pc' := 187) (st' := [pw_i x240, pw_i x57, pw_i 0, pw_i 0, .ref 141]) rfl (fun _ => rfl) ?_
                                refine pw_if2 E (pc' := 194) rfl (by decide) (by omega) (by omega) (by omega) (by omega) ?_ ?_
                                · intro hc289
                                  change x240 ≤ x57 at hc289
                                  refine pw_ld E (pc' := 195) (st' := [pw_i 0, pw_i 0, pw_i 0, .ref 141]) rfl (fun _ => rfl) ?_
                                  refine pw_if2 E (pc' := 204) rfl (by decide) (by decide) (by decide) (by decide) (by decide) ?_ ?_
                                  · intro hc290
                                    change (0 : Int) ≠ (0 : Int) at hc290
                                    exfalso; omega
                                  · intro hc291
                                    change ¬ ((0 : Int) ≠ (0 : Int)) at hc291
                                    refine pw_ld E (pc' := 200) (st' := [pw_i x57, pw_i 0, .ref 141]) rfl (fun _ => rfl) ?_
                                    refine pw_i2l E (pc' := 201) rfl rfl (by omega) (by omega) ?_
                                    refine pw_goto E (pc' := 207) rfl (by decide) ?_
                                    obtain ⟨f292l, f292h, -⟩ := pw_obj (c := 125) I42 rfl
                                    refine pw_call (m' := 220) (As := [.ref 141, pw_i 0, .long (Int64.ofInt x57)]) (rest := []) (ls'' := [some (.ref 141), some (pw_i 0), some (.long (Int64.ofInt x57)), none]) (Nat.le_trans (by decide) hd) E rfl (fun _ => pw_iV rfl rfl rfl rfl (pw_cellI f292h rfl)) (rfl : pm_ent 220 = some (3, 4, 12, 4, pmc_220)) rfl rfl (cm_220 (pw_dp hd (by decide)) I42 (0) (by omega) (by omega) (Int64.ofInt x57) (by omega) (by omega) (by omega)) ?_
                                    rintro h293 v294 ⟨h293I, h293E, hq295, rfl⟩
                                    refine ⟨_, rfl, ?_⟩
                                    have h293F := E42.tr (h293E.wk (W' := [125]) (by first | rfl | simp))
                                    show pw X d h293 303 210 [some (.ref 141), some (pw_i a0), some (pw_i a1), some (pw_i a2), some (pw_i k42_4), some (pw_i ((12 * k42_4) + a0)), some (pw_i ((12 * k42_4) + a1)), some (pw_i x57), some (pw_i x240), some (pw_i 0)] [] _
                                    refine pw_inc E (pc' := 213) (ls' := [some (.ref 141), some (pw_i a0), some (pw_i a1), some (pw_i a2), some (pw_i (k42_4 + 1)), some (pw_i ((12 * k42_4) + a0)), some (pw_i ((12 * k42_4) + a1)), some (pw_i x57), some (pw_i x240), some (pw_i 0)]) rfl rfl rfl rfl ?_
                                    refine pw_goto E (pc' := 42) rfl (by decide) ?_
                                    exact ih42 _ (by omega) (k42_4 + 1) (some (pw_i ((12 * k42_4) + a0))) (some (pw_i ((12 * k42_4) + a1))) (some (pw_i x57)) (some (pw_i x240)) (some (pw_i 0)) h293 h293I h293F (by omega) (by omega) (by omega) (by omega) (by omega) rfl
                                · intro hc296
                                  change ¬ (x240 ≤ x57) at hc296
                                  refine pw_ld E (pc' := 191) (st' := [pw_i 1, pw_i 0, pw_i 0, .ref 141]) rfl (fun _ => rfl) ?_
                                  refine pw_goto E (pc' := 195) rfl (by decide) ?_
                                  refine pw_if2 E (pc' := 204) rfl (by decide) (by decide) (by decide) (by decide) (by decide) ?_ ?_
                                  · intro hc297
                                    change (0 : Int) ≠ (1 : Int) at hc297
                                    refine pw_ld E (pc' := 206) (st' := [pw_i x240, pw_i 0, .ref 141]) rfl (fun _ => rfl) ?_
                                    refine pw_i2l E (pc' := 207) rfl rfl (by omega) (by omega) ?_
                                    obtain ⟨f298l, f298h, -⟩ := pw_obj (c := 125) I42 rfl
                                    refine pw_call (m' := 220) (As := [.ref 141, pw_i 0, .long (Int64.ofInt x240)]) (rest := []) (ls'' := [some (.ref 141), some (pw_i 0), some (.long (Int64.ofInt x240)), none]) (Nat.le_trans (by decide) hd) E rfl (fun _ => pw_iV rfl rfl rfl rfl (pw_cellI f298h rfl)) (rfl : pm_ent 220 = some (3, 4, 12, 4, pmc_220)) rfl rfl (cm_220 (pw_dp hd (by decide)) I42 (0) (by omega) (by omega) (Int64.ofInt x240) (by omega) (by omega) (by omega)) ?_
                                    rintro h299 v300 ⟨h299I, h299E, hq301, rfl⟩
                                    refine ⟨_, rfl, ?_⟩
                                    have h299F := E42.tr (h299E.wk (W' := [125]) (by first | rfl | simp))
                                    show pw X d h299 303 210 [some (.ref 141), some (pw_i a0), some (pw_i a1), some (pw_i a2), some (pw_i k42_4), some (pw_i ((12 * k42_4) + a0)), some (pw_i ((12 * k42_4) + a1)), some (pw_i x57), some (pw_i x240), some (pw_i 0)] [] _
                                    refine pw_inc E (pc' := 213) (ls' := [some (.ref 141), some (pw_i a0), some (pw_i a1), some (pw_i a2), some (pw_i (k42_4 + 1)), some (pw_i ((12 * k42_4) + a0)), some (pw_i ((12 * k42_4) + a1)), some (pw_i x57), some (pw_i x240), some (pw_i 0)]) rfl rfl rfl rfl ?_
                                    refine pw_goto E (pc' := 42) rfl (by decide) ?_
                                    exact ih42 _ (by omega) (k42_4 + 1) (some (pw_i ((12 * k42_4) + a0))) (some (pw_i ((12 * k42_4) + a1))) (some (pw_i x57)) (some (pw_i x240)) (some (pw_i 0)) h299 h299I h299F (by omega) (by omega) (by omega) (by omega) (by omega) rfl
                                  · intro hc302
                                    change ¬ ((0 : Int) ≠ (1 : Int)) at hc302
                                    exfalso; omega
                              · intro hc303
                                change ¬ (pw_g gh42 132 (k42_4.toNat) ≠ (0 : Int)) at hc303
                                exfalso; omega
                            · intro hc304
                              change ¬ ((1 : Int) ≠ (0 : Int)) at hc304
                              exfalso; omega
                          · intro hc305
                            change ¬ (pw_g gh42 132 (k42_4.toNat) ≠ (0 : Int)) at hc305
                            refine pw_ld E (pc' := 151) (st' := [pw_i 1, pw_i 1]) rfl (fun _ => rfl) ?_
                            refine pw_goto E (pc' := 155) rfl (by decide) ?_
                            refine pw_if2 E (pc' := 162) rfl (by decide) (by decide) (by decide) (by decide) (by decide) ?_ ?_
                            · intro hc306
                              change (1 : Int) ≠ (1 : Int) at hc306
                              exfalso; omega
                            · intro hc307
                              change ¬ ((1 : Int) ≠ (1 : Int)) at hc307
                              refine pw_ld E (pc' := 159) (st' := [pw_i 1]) rfl (fun _ => rfl) ?_
                              refine pw_goto E (pc' := 163) rfl (by decide) ?_
                              refine pw_ist E (pc' := 165) (ls' := [some (.ref 141), some (pw_i a0), some (pw_i a1), some (pw_i a2), some (pw_i k42_4), some (pw_i ((12 * k42_4) + a0)), some (pw_i ((12 * k42_4) + a1)), some (pw_i x57), some (pw_i x240), some (pw_i 1)]) rfl rfl rfl rfl ?_
                              refine pw_ld E (pc' := 166) (st' := [.ref 141]) rfl (fun _ => rfl) ?_
                              refine pw_ld E (pc' := 167) (st' := [.ref 141, .ref 141]) rfl (fun _ => rfl) ?_
                              refine pw_getR (b := 148) I42 E (c := 125) (k := 11) (pc' := 170) rfl rfl rfl rfl rfl rfl rfl ?_
                              refine pw_ld E (pc' := 172) (st' := [pw_i k42_4, .ref 148, .ref 141]) rfl (fun _ => rfl) ?_
                              refine pw_ald2 I42 E (c := 132) (pc' := 173) rfl rfl rfl (by decide) rfl (by decide) (by omega) (by omega) rfl (fun hf308a hf308b => ?_)
                              refine pw_if E (pc' := 180) rfl (by decide) (by omega) (by omega) ?_ ?_
                              · intro hc309
                                change pw_g gh42 132 (k42_4.toNat) ≠ (0 : Int) at hc309
                                exfalso; omega
                              · intro hc310
                                change ¬ (pw_g gh42 132 (k42_4.toNat) ≠ (0 : Int)) at hc310
                                refine pw_ld E (pc' := 177) (st' := [pw_i 1, .ref 141]) rfl (fun _ => rfl) ?_
                                refine pw_goto E (pc' := 181) rfl (by decide) ?_
                                refine pw_ld E (pc' := 183) (st' := [pw_i 1, pw_i 1, .ref 141]) rfl (fun _ => rfl) ?_
                                refine pw_ld E (pc' := 185) (st' := [pw_i x57, pw_i 1, pw_i 1, .ref 141]) rfl (fun _ => rfl) ?_
                                refine pw_ld E (pc' := 187) (st' := [pw_i x240, pw_i x57, pw_i 1, pw_i 1, .ref 141]) rfl (fun _ => rfl) ?_
                                refine pw_if2 E (pc' := 194) rfl (by decide) (by omega) (by omega) (by omega) (by omega) ?_ ?_
                                · intro hc311
                                  change x240 ≤ x57 at hc311
                                  refine pw_ld E (pc' := 195) (st' := [pw_i 0, pw_i 1, pw_i 1, .ref 141]) rfl (fun _ => rfl) ?_
                                  refine pw_if2 E (pc' := 204) rfl (by decide) (by decide) (by decide) (by decide) (by decide) ?_ ?_
                                  · intro hc312
                                    change (1 : Int) ≠ (0 : Int) at hc312
                                    refine pw_ld E (pc' := 206) (st' := [pw_i x240, pw_i 1, .ref 141]) rfl (fun _ => rfl) ?_
                                    refine pw_i2l E (pc' := 207) rfl rfl (by omega) (by omega) ?_
                                    obtain ⟨f313l, f313h, -⟩ := pw_obj (c := 125) I42 rfl
                                    refine pw_call (m' := 220) (As := [.ref 141, pw_i 1, .long (Int64.ofInt x240)]) (rest := []) (ls'' := [some (.ref 141), some (pw_i 1), some (.long (Int64.ofInt x240)), none]) (Nat.le_trans (by decide) hd) E rfl (fun _ => pw_iV rfl rfl rfl rfl (pw_cellI f313h rfl)) (rfl : pm_ent 220 = some (3, 4, 12, 4, pmc_220)) rfl rfl (cm_220 (pw_dp hd (by decide)) I42 (1) (by omega) (by omega) (Int64.ofInt x240) (by omega) (by omega) (by omega)) ?_
                                    rintro h314 v315 ⟨h314I, h314E, hq316, rfl⟩
                                    refine ⟨_, rfl, ?_⟩
                                    have h314F := E42.tr (h314E.wk (W' := [125]) (by first | rfl | simp))
                                    show pw X d h314 303 210 [some (.ref 141), some (pw_i a0), some (pw_i a1), some (pw_i a2), some (pw_i k42_4), some (pw_i ((12 * k42_4) + a0)), some (pw_i ((12 * k42_4) + a1)), some (pw_i x57), some (pw_i x240), some (pw_i 1)] [] _
                                    refine pw_inc E (pc' := 213) (ls' := [some (.ref 141), some (pw_i a0), some (pw_i a1), some (pw_i a2), some (pw_i (k42_4 + 1)), some (pw_i ((12 * k42_4) + a0)), some (pw_i ((12 * k42_4) + a1)), some (pw_i x57), some (pw_i x240), some (pw_i 1)]) rfl rfl rfl rfl ?_
                                    refine pw_goto E (pc' := 42) rfl (by decide) ?_
                                    exact ih42 _ (by omega) (k42_4 + 1) (some (pw_i ((12 * k42_4) + a0))) (some (pw_i ((12 * k42_4) + a1))) (some (pw_i x57)) (some (pw_i x240)) (some (pw_i 1)) h314 h314I h314F (by omega) (by omega) (by omega) (by omega) (by omega) rfl
                                  · intro hc317
                                    change ¬ ((1 : Int) ≠ (0 : Int)) at hc317
                                    exfalso; omega
                                · intro hc318
                                  change ¬ (x240 ≤ x57) at hc318
                                  refine pw_ld E (pc' := 191) (st' := [pw_i 1, pw_i 1, pw_i 1, .ref 141]) rfl (fun _ => rfl) ?_
                                  refine pw_goto E (pc' := 195) rfl (by decide) ?_
                                  refine pw_if2 E (pc' := 204) rfl (by decide) (by decide) (by decide) (by decide) (by decide) ?_ ?_
                                  · intro hc319
                                    change (1 : Int) ≠ (1 : Int) at hc319
                                    exfalso; omega
                                  · intro hc320
                                    change ¬ ((1 : Int) ≠ (1 : Int)) at hc320
                                    refine pw_ld E (pc' := 200) (st' := [pw_i x57, pw_i 1, .ref 141]) rfl (fun _ => rfl) ?_
                                    refine pw_i2l E (pc' := 201) rfl rfl (by omega) (by omega) ?_
                                    refine pw_goto E (pc' := 207) rfl (by decide) ?_
                                    obtain ⟨f321l, f321h, -⟩ := pw_obj (c := 125) I42 rfl
                                    refine pw_call (m' := 220) (As := [.ref 141, pw_i 1, .long (Int64.ofInt x57)]) (rest := []) (ls'' := [some (.ref 141), some (pw_i 1), some (.long (Int64.ofInt x57)), none]) (Nat.le_trans (by decide) hd) E rfl (fun _ => pw_iV rfl rfl rfl rfl (pw_cellI f321h rfl)) (rfl : pm_ent 220 = some (3, 4, 12, 4, pmc_220)) rfl rfl (cm_220 (pw_dp hd (by decide)) I42 (1) (by omega) (by omega) (Int64.ofInt x57) (by omega) (by omega) (by omega)) ?_
                                    rintro h322 v323 ⟨h322I, h322E, hq324, rfl⟩
                                    refine ⟨_, rfl, ?_⟩
                                    have h322F := E42.tr (h322E.wk (W' := [125]) (by first | rfl | simp))
                                    show pw X d h322 303 210 [some (.ref 141), some (pw_i a0), some (pw_i a1), some (pw_i a2), some (pw_i k42_4), some (pw_i ((12 * k42_4) + a0)), some (pw_i ((12 * k42_4) + a1)), some (pw_i x57), some (pw_i x240), some (pw_i 1)] [] _
                                    refine pw_inc E (pc' := 213) (ls' := [some (.ref 141), some (pw_i a0), some (pw_i a1), some (pw_i a2), some (pw_i (k42_4 + 1)), some (pw_i ((12 * k42_4) + a0)), some (pw_i ((12 * k42_4) + a1)), some (pw_i x57), some (pw_i x240), some (pw_i 1)]) rfl rfl rfl rfl ?_
                                    refine pw_goto E (pc' := 42) rfl (by decide) ?_
                                    exact ih42 _ (by omega) (k42_4 + 1) (some (pw_i ((12 * k42_4) + a0))) (some (pw_i ((12 * k42_4) + a1))) (some (pw_i x57)) (some (pw_i x240)) (some (pw_i 1)) h322 h322I h322F (by omega) (by omega) (by omega) (by omega) (by omega) rfl
            exact L42 _ (0) (none) (none) (none) (none) (none) h18 h18I h18F (by omega) (by omega) (by omega) (by omega) (by omega) rfl
          · intro hc325
            change ¬ (pw_g h13 125 0 ≤ (0 : Int)) at hc325
            exfalso; omega
      · skip
        refine pw_if E (pc' := 22) rfl (by decide) (by omega) (by omega) ?_ ?_
        · intro hc327
          change x9 = (0 : Int) at hc327
          refine pw_ld E (pc' := 23) (st' := [pw_i 1, .ref 141]) rfl (fun _ => rfl) ?_
          refine pw_putI I E (c := 125) (k := 0) (pc' := 26) rfl rfl rfl rfl (by omega) (by omega) (by omega) (by omega) rfl rfl ?_
          intro h328I h328E
          generalize h328w : pw_w h 125 0 (pw_i 1) = h328 at h328I h328E ⊢
          have h328F := E0.tr (h328E.wk (W' := [125]) (by first | rfl | simp))
          refine pw_ld E (pc' := 27) (st' := [.ref 141]) rfl (fun _ => rfl) ?_
          have he330 : pw_g h328 125 0 = 1 := by rw [← h328w]; exact pw_g_eq (c := 125) (k := 0) I rfl rfl (by omega) (by omega)
          refine pw_getI2 h328I E (c := 125) (k := 0) (pc' := 30) rfl rfl rfl rfl rfl rfl (fun hf329a hf329b => ?_)
          refine pw_if E (pc' := 35) rfl (by decide) (by omega) (by omega) ?_ ?_
          · intro hc331
            change pw_g h328 125 0 ≤ (0 : Int) at hc331
            exfalso; omega
          · intro hc332
            change ¬ (pw_g h328 125 0 ≤ (0 : Int)) at hc332
            refine pw_ld E (pc' := 34) (st' := [.long (Int64.ofInt 0)]) rfl (fun _ => rfl) ?_
            refine pw_lret E rfl ?_
            exact ⟨h328I, h328F, ⟨_, rfl⟩⟩
        · intro hc333
          change ¬ (x9 = (0 : Int)) at hc333
          exfalso; omega
  · skip
    refine pw_if E (pc' := 22) rfl (by decide) (by omega) (by omega) ?_ ?_
    · intro hc335
      change x3 = (0 : Int) at hc335
      refine pw_ld E (pc' := 23) (st' := [pw_i 1, .ref 141]) rfl (fun _ => rfl) ?_
      refine pw_putI I E (c := 125) (k := 0) (pc' := 26) rfl rfl rfl rfl (by omega) (by omega) (by omega) (by omega) rfl rfl ?_
      intro h336I h336E
      generalize h336w : pw_w h 125 0 (pw_i 1) = h336 at h336I h336E ⊢
      have h336F := E0.tr (h336E.wk (W' := [125]) (by first | rfl | simp))
      refine pw_ld E (pc' := 27) (st' := [.ref 141]) rfl (fun _ => rfl) ?_
      have he338 : pw_g h336 125 0 = 1 := by rw [← h336w]; exact pw_g_eq (c := 125) (k := 0) I rfl rfl (by omega) (by omega)
      refine pw_getI2 h336I E (c := 125) (k := 0) (pc' := 30) rfl rfl rfl rfl rfl rfl (fun hf337a hf337b => ?_)
      refine pw_if E (pc' := 35) rfl (by decide) (by omega) (by omega) ?_ ?_
      · intro hc339
        change pw_g h336 125 0 ≤ (0 : Int) at hc339
        exfalso; omega
      · intro hc340
        change ¬ (pw_g h336 125 0 ≤ (0 : Int)) at hc340
        refine pw_ld E (pc' := 34) (st' := [.long (Int64.ofInt 0)]) rfl (fun _ => rfl) ?_
        refine pw_lret E rfl ?_
        exact ⟨h336I, h336F, ⟨_, rfl⟩⟩
    · intro hc341
      change ¬ (x3 = (0 : Int)) at hc341
      exfalso; omega
set_option maxHeartbeats 4000000 in
theorem cm_232 {X : List (Nat × List Value)} {d : Nat} {h : pm_H} (hd : 4 ≤ d) (I : pw_I h) (bk : Int) (hbk1 : (-2147483648) ≤ bk) (hbk2 : bk ≤ 2147483647) (b : Int) (hb1 : 0 ≤ b) (hb2 : b ≤ 11) (e : Int) (he1 : 0 ≤ e) (he2 : e ≤ 11) (k0 : Int) (hk01 : (-2147483648) ≤ k0) (hk02 : k0 ≤ 2147483647) (sg : Int) (hsg1 : (-2147483648) ≤ sg) (hsg2 : sg ≤ 2147483647) : pw X d h 232 0 [some (.ref 141), some (pw_i bk), some (pw_i b), some (pw_i e), some (pw_i k0), some (pw_i sg), none, none, none, none] [] (fun h' v => pw_I h' ∧ pw_E [144] h h' ∧ ∃ w : Int64, v = .inl (some (.long w))) := by
  have E : pm_ent 232 = some (6, 10, 12, 2, pmc_232) := rfl
  have E0 : pw_E [144] h h := pw_E.rf _ _
  refine pw_ld E (pc' := 1) (st' := [pw_i 0]) rfl (fun _ => rfl) ?_
  refine pw_ist E (pc' := 3) (ls' := [some (.ref 141), some (pw_i bk), some (pw_i b), some (pw_i e), some (pw_i k0), some (pw_i sg), some (pw_i 0), none, none, none]) rfl rfl rfl rfl ?_
  refine pw_ld E (pc' := 4) (st' := [pw_i 0]) rfl (fun _ => rfl) ?_
  refine pw_ist E (pc' := 6) (ls' := [some (.ref 141), some (pw_i bk), some (pw_i b), some (pw_i e), some (pw_i k0), some (pw_i sg), some (pw_i 0), some (pw_i 0), none, none]) rfl rfl rfl rfl ?_
  have L6 : ∀ (n6 : Nat) (k6_6 : Int) (k6_7 : Int) (k6_8 : Option Value) (k6_9 : Option Value) (gh6 : pm_H), pw_I gh6 → pw_E [144] h gh6 → 0 ≤ k6_6 → k6_6 ≤ 24 → 0 ≤ k6_7 → k6_7 ≤ 24 → k6_6 ≤ k6_7 → (24 - k6_7).toNat = n6 → pw X d gh6 232 6 [some (.ref 141), some (pw_i bk), some (pw_i b), some (pw_i e), some (pw_i k0), some (pw_i sg), some (pw_i k6_6), some (pw_i k6_7), k6_8, k6_9] [] (fun h' v => pw_I h' ∧ pw_E [144] h h' ∧ ∃ w : Int64, v = .inl (some (.long w))) := by
    intro n6
    induction n6 using Nat.strongRecOn with
    | ind n6 ih6 =>
      intro k6_6 k6_7 k6_8 k6_9 gh6 I6 E6 k6_6a k6_6b k6_7a k6_7b hx6_0 hm6
      refine pw_ld E (pc' := 8) (st' := [pw_i k6_7]) rfl (fun _ => rfl) ?_
      refine pw_bip E (pc' := 10) rfl rfl (by decide) ?_
      refine pw_if2 E (pc' := 111) rfl (by decide) (by omega) (by omega) (by decide) (by decide) ?_ ?_
      · intro hc1
        change (24 : Int) ≤ k6_7 at hc1
        refine pw_ld E (pc' := 112) (st' := [.long (Int64.ofInt 0)]) rfl (fun _ => rfl) ?_
        refine pw_lst E (pc' := 114) (ls' := [some (.ref 141), some (pw_i bk), some (pw_i b), some (pw_i e), some (pw_i k0), some (pw_i sg), some (pw_i k6_6), some (.long (Int64.ofInt 0)), none, k6_9]) rfl rfl rfl rfl ?_
        refine pw_ld E (pc' := 115) (st' := [pw_i 0]) rfl (fun _ => rfl) ?_
        refine pw_ist E (pc' := 117) (ls' := [some (.ref 141), some (pw_i bk), some (pw_i b), some (pw_i e), some (pw_i k0), some (pw_i sg), some (pw_i k6_6), some (.long (Int64.ofInt 0)), none, some (pw_i 0)]) rfl rfl rfl rfl ?_
        have L117 : ∀ (n117 : Nat) (k117_7 : Int64) (k117_9 : Int), 0 ≤ k117_9 → k117_9 ≤ 2147483647 → (2147483647 - k117_9).toNat = n117 → pw X d gh6 232 117 [some (.ref 141), some (pw_i bk), some (pw_i b), some (pw_i e), some (pw_i k0), some (pw_i sg), some (pw_i k6_6), some (.long k117_7), none, some (pw_i k117_9)] [] (fun h' v => pw_I h' ∧ pw_E [144] h h' ∧ ∃ w : Int64, v = .inl (some (.long w))) := by
          intro n117
          induction n117 using Nat.strongRecOn with
          | ind n117 ih117 =>
            intro k117_7 k117_9 k117_9a k117_9b hm117
            refine pw_ld E (pc' := 119) (st' := [pw_i k117_9]) rfl (fun _ => rfl) ?_
            refine pw_ld E (pc' := 121) (st' := [pw_i k0, pw_i k117_9]) rfl (fun _ => rfl) ?_
            refine pw_if2 E (pc' := 150) rfl (by decide) (by omega) (by omega) (by omega) (by omega) ?_ ?_
            · intro hc2
              change k0 ≤ k117_9 at hc2
              refine pw_ld E (pc' := 152) (st' := [pw_i sg]) rfl (fun _ => rfl) ?_
              refine pw_i2l E (pc' := 153) rfl rfl (by omega) (by omega) ?_
              refine pw_ld E (pc' := 155) (st' := [.long k117_7, .long (Int64.ofInt sg)]) rfl (fun _ => rfl) ?_
              refine pw_ld E (pc' := 156) (st' := [.long ((Int64.ofInt sg) * k117_7)]) rfl (fun _ => rfl) ?_
              refine pw_lret E rfl ?_
              exact ⟨I6, E6, ⟨_, rfl⟩⟩
            · intro hc3
              change ¬ (k0 ≤ k117_9) at hc3
              refine pw_ld E (pc' := 126) (st' := [pw_i k117_9]) rfl (fun _ => rfl) ?_
              refine pw_ld E (pc' := 128) (st' := [pw_i k6_6, pw_i k117_9]) rfl (fun _ => rfl) ?_
              refine pw_if2 E (pc' := 150) rfl (by decide) (by omega) (by omega) (by omega) (by omega) ?_ ?_
              · intro hc4
                change k6_6 ≤ k117_9 at hc4
                refine pw_ld E (pc' := 152) (st' := [pw_i sg]) rfl (fun _ => rfl) ?_
                refine pw_i2l E (pc' := 153) rfl rfl (by omega) (by omega) ?_
                refine pw_ld E (pc' := 155) (st' := [.long k117_7, .long (Int64.ofInt sg)]) rfl (fun _ => rfl) ?_
                refine pw_ld E (pc' := 156) (st' := [.long ((Int64.ofInt sg) * k117_7)]) rfl (fun _ => rfl) ?_
                refine pw_lret E rfl ?_
                exact ⟨I6, E6, ⟨_, rfl⟩⟩
              · intro hc5
                change ¬ (k6_6 ≤ k117_9) at hc5
                refine pw_ld E (pc' := 133) (st' := [.long k117_7]) rfl (fun _ => rfl) ?_
                refine pw_ld E (pc' := 134) (st' := [.ref 141, .long k117_7]) rfl (fun _ => rfl) ?_
                refine pw_getR (b := 160) I6 E (c := 125) (k := 30) (pc' := 137) rfl rfl rfl rfl rfl rfl rfl ?_
                refine pw_ld E (pc' := 139) (st' := [pw_i k117_9, .ref 160, .long k117_7]) rfl (fun _ => rfl) ?_
                refine pw_ald2 I6 E (c := 144) (pc' := 140) rfl rfl rfl (by decide) rfl (by decide) (by omega) (by omega) rfl (fun hf6a hf6b => ?_)
                refine pw_i2l E (pc' := 141) rfl rfl (by omega) (by omega) ?_
                refine pw_ld E (pc' := 142) (st' := [.long (k117_7 + (Int64.ofInt (pw_g gh6 144 (k117_9.toNat))))]) rfl (fun _ => rfl) ?_
                refine pw_lst E (pc' := 144) (ls' := [some (.ref 141), some (pw_i bk), some (pw_i b), some (pw_i e), some (pw_i k0), some (pw_i sg), some (pw_i k6_6), some (.long (k117_7 + (Int64.ofInt (pw_g gh6 144 (k117_9.toNat))))), none, some (pw_i k117_9)]) rfl rfl rfl rfl ?_
                refine pw_inc E (pc' := 147) (ls' := [some (.ref 141), some (pw_i bk), some (pw_i b), some (pw_i e), some (pw_i k0), some (pw_i sg), some (pw_i k6_6), some (.long (k117_7 + (Int64.ofInt (pw_g gh6 144 (k117_9.toNat))))), none, some (pw_i (k117_9 + 1))]) rfl rfl rfl rfl ?_
                refine pw_goto E (pc' := 117) rfl (by decide) ?_
                exact ih117 _ (by omega) (k117_7 + (Int64.ofInt (pw_g gh6 144 (k117_9.toNat)))) (k117_9 + 1)  (by omega) (by omega)  rfl
        exact L117 _ (Int64.ofInt 0) (0)  (by omega) (by omega)  rfl
      · intro hc7
        change ¬ ((24 : Int) ≤ k6_7) at hc7
        refine pw_ld E (pc' := 14) (st' := [.ref 141]) rfl (fun _ => rfl) ?_
        refine pw_ld E (pc' := 16) (st' := [pw_i k6_7, .ref 141]) rfl (fun _ => rfl) ?_
        refine pw_ld E (pc' := 17) (st' := [pw_i b, pw_i k6_7, .ref 141]) rfl (fun _ => rfl) ?_
        refine pw_ld E (pc' := 18) (st' := [pw_i e, pw_i b, pw_i k6_7, .ref 141]) rfl (fun _ => rfl) ?_
        obtain ⟨f8l, f8h, -⟩ := pw_obj (c := 125) I6 rfl
        refine pw_call (m' := 214) (As := [.ref 141, pw_i k6_7, pw_i b, pw_i e]) (rest := []) (ls'' := [some (.ref 141), some (pw_i k6_7), some (pw_i b), some (pw_i e)]) (Nat.le_trans (by decide) hd) E rfl (fun _ => pw_iV rfl rfl rfl rfl (pw_cellI f8h rfl)) (rfl : pm_ent 214 = some (4, 4, 12, 1, pmc_214)) rfl rfl (cm_214 (pw_dp hd (by decide)) I6 (k6_7) (by omega) (by omega) (b) (by omega) (by omega) (e) (by omega) (by omega)) ?_
        rintro u10 v9 ⟨rfl, x11, rfl, hx11a, hx11b⟩
        refine ⟨_, rfl, ?_⟩
        show pw X d gh6 232 21 [some (.ref 141), some (pw_i bk), some (pw_i b), some (pw_i e), some (pw_i k0), some (pw_i sg), some (pw_i k6_6), some (pw_i k6_7), k6_8, k6_9] [pw_i x11] _
        refine pw_if E (pc' := 105) rfl (by decide) (by omega) (by omega) ?_ ?_
        · intro hc12
          change x11 = (0 : Int) at hc12
          refine pw_inc E (pc' := 108) (ls' := [some (.ref 141), some (pw_i bk), some (pw_i b), some (pw_i e), some (pw_i k0), some (pw_i sg), some (pw_i k6_6), some (pw_i (k6_7 + 1)), k6_8, k6_9]) rfl rfl rfl rfl ?_
          refine pw_goto E (pc' := 6) rfl (by decide) ?_
          exact ih6 _ (by omega) (k6_6) (k6_7 + 1) k6_8 k6_9 gh6 I6 E6 (by omega) (by omega) (by omega) (by omega) (by omega) rfl
        · intro hc13
          change ¬ (x11 = (0 : Int)) at hc13
          refine pw_ld E (pc' := 25) (st' := [.ref 141]) rfl (fun _ => rfl) ?_
          refine pw_getR (b := 148) I6 E (c := 125) (k := 11) (pc' := 28) rfl rfl rfl rfl rfl rfl rfl ?_
          refine pw_ld E (pc' := 30) (st' := [pw_i k6_7, .ref 148]) rfl (fun _ => rfl) ?_
          refine pw_ald2 I6 E (c := 132) (pc' := 31) rfl rfl rfl (by decide) rfl (by decide) (by omega) (by omega) rfl (fun hf14a hf14b => ?_)
          refine pw_ld E (pc' := 32) (st' := [pw_i bk, pw_i (pw_g gh6 132 (k6_7.toNat))]) rfl (fun _ => rfl) ?_
          refine pw_if2 E (pc' := 105) rfl (by decide) (by omega) (by omega) (by omega) (by omega) ?_ ?_
          · intro hc15
            change pw_g gh6 132 (k6_7.toNat) ≠ bk at hc15
            refine pw_inc E (pc' := 108) (ls' := [some (.ref 141), some (pw_i bk), some (pw_i b), some (pw_i e), some (pw_i k0), some (pw_i sg), some (pw_i k6_6), some (pw_i (k6_7 + 1)), k6_8, k6_9]) rfl rfl rfl rfl ?_
            refine pw_goto E (pc' := 6) rfl (by decide) ?_
            exact ih6 _ (by omega) (k6_6) (k6_7 + 1) k6_8 k6_9 gh6 I6 E6 (by omega) (by omega) (by omega) (by omega) (by omega) rfl
          · intro hc16
            change ¬ (pw_g gh6 132 (k6_7.toNat) ≠ bk) at hc16
            refine pw_ld E (pc' := 37) (st' := [pw_i sg]) rfl (fun _ => rfl) ?_
            refine pw_ld E (pc' := 38) (st' := [.ref 141, pw_i sg]) rfl (fun _ => rfl) ?_
            refine pw_ld E (pc' := 40) (st' := [pw_i k6_7, .ref 141, pw_i sg]) rfl (fun _ => rfl) ?_
            refine pw_ld E (pc' := 41) (st' := [pw_i b, pw_i k6_7, .ref 141, pw_i sg]) rfl (fun _ => rfl) ?_
            refine pw_ld E (pc' := 42) (st' := [pw_i e, pw_i b, pw_i k6_7, .ref 141, pw_i sg]) rfl (fun _ => rfl) ?_
            obtain ⟨f17l, f17h, -⟩ := pw_obj (c := 125) I6 rfl
            refine pw_call (m' := 215) (As := [.ref 141, pw_i k6_7, pw_i b, pw_i e]) (rest := [pw_i sg]) (ls'' := [some (.ref 141), some (pw_i k6_7), some (pw_i b), some (pw_i e)]) (Nat.le_trans (by decide) hd) E rfl (fun _ => pw_iV rfl rfl rfl rfl (pw_cellI f17h rfl)) (rfl : pm_ent 215 = some (4, 4, 12, 0, pmc_215)) rfl rfl (cm_215 (pw_dp hd (by decide)) I6 (k6_7) (by omega) (by omega) (b) (by omega) (by omega) (e) (by omega) (by omega)) ?_
            rintro u19 v18 ⟨rfl, x20, rfl, hx20a, hx20b⟩
            refine ⟨_, rfl, ?_⟩
            show pw X d gh6 232 45 [some (.ref 141), some (pw_i bk), some (pw_i b), some (pw_i e), some (pw_i k0), some (pw_i sg), some (pw_i k6_6), some (pw_i k6_7), k6_8, k6_9] [pw_i x20, pw_i sg] _
            refine pw_mul E (pc' := 46) rfl rfl ?_
            refine pw_nm (fun x21 hx21a hx21b => ?_)
            refine pw_ist E (pc' := 48) (ls' := [some (.ref 141), some (pw_i bk), some (pw_i b), some (pw_i e), some (pw_i k0), some (pw_i sg), some (pw_i k6_6), some (pw_i k6_7), some (pw_i x21), k6_9]) rfl rfl rfl rfl ?_
            refine pw_ld E (pc' := 50) (st' := [pw_i k6_6]) rfl (fun _ => rfl) ?_
            refine pw_ist E (pc' := 52) (ls' := [some (.ref 141), some (pw_i bk), some (pw_i b), some (pw_i e), some (pw_i k0), some (pw_i sg), some (pw_i k6_6), some (pw_i k6_7), some (pw_i x21), some (pw_i k6_6)]) rfl rfl rfl rfl ?_
            have L52 : ∀ (n52 : Nat) (k52_9 : Int) (gh52 : pm_H), pw_I gh52 → pw_E [144] h gh52 → 0 ≤ k52_9 → k52_9 ≤ 23 → k52_9 ≤ k6_6 → (k52_9).toNat = n52 → pw X d gh52 232 52 [some (.ref 141), some (pw_i bk), some (pw_i b), some (pw_i e), some (pw_i k0), some (pw_i sg), some (pw_i k6_6), some (pw_i k6_7), some (pw_i x21), some (pw_i k52_9)] [] (fun h' v => pw_I h' ∧ pw_E [144] h h' ∧ ∃ w : Int64, v = .inl (some (.long w))) := by
              intro n52
              induction n52 using Nat.strongRecOn with
              | ind n52 ih52 =>
                intro k52_9 gh52 I52 E52 k52_9a k52_9b hx52_0 hm52
                refine pw_ld E (pc' := 54) (st' := [pw_i k52_9]) rfl (fun _ => rfl) ?_
                refine pw_if E (pc' := 93) rfl (by decide) (by omega) (by omega) ?_ ?_
                · intro hc22
                  change k52_9 ≤ (0 : Int) at hc22
                  refine pw_ld E (pc' := 94) (st' := [.ref 141]) rfl (fun _ => rfl) ?_
                  refine pw_getR (b := 160) I52 E (c := 125) (k := 30) (pc' := 97) rfl rfl rfl rfl rfl rfl rfl ?_
                  refine pw_ld E (pc' := 99) (st' := [pw_i k52_9, .ref 160]) rfl (fun _ => rfl) ?_
                  refine pw_ld E (pc' := 101) (st' := [pw_i x21, pw_i k52_9, .ref 160]) rfl (fun _ => rfl) ?_
                  refine pw_ast0 I52 E (c := 144) (pc' := 102) rfl rfl rfl (by decide) rfl (by decide) (by omega) (by omega) rfl (by omega) (by omega) (by omega) (by omega) rfl ?_
                  intro h23I h23E
                  generalize h23w : pw_w gh52 144 (k52_9.toNat) (pw_i x21) = h23 at h23I h23E ⊢
                  have h23F := E52.tr (h23E.wk (W' := [144]) (by first | rfl | simp))
                  refine pw_inc E (pc' := 105) (ls' := [some (.ref 141), some (pw_i bk), some (pw_i b), some (pw_i e), some (pw_i k0), some (pw_i sg), some (pw_i (k6_6 + 1)), some (pw_i k6_7), some (pw_i x21), some (pw_i k52_9)]) rfl rfl rfl rfl ?_
                  refine pw_inc E (pc' := 108) (ls' := [some (.ref 141), some (pw_i bk), some (pw_i b), some (pw_i e), some (pw_i k0), some (pw_i sg), some (pw_i (k6_6 + 1)), some (pw_i (k6_7 + 1)), some (pw_i x21), some (pw_i k52_9)]) rfl rfl rfl rfl ?_
                  refine pw_goto E (pc' := 6) rfl (by decide) ?_
                  exact ih6 _ (by omega) (k6_6 + 1) (k6_7 + 1) (some (pw_i x21)) (some (pw_i k52_9)) h23 h23I h23F (by omega) (by omega) (by omega) (by omega) (by omega) rfl
                · intro hc24
                  change ¬ (k52_9 ≤ (0 : Int)) at hc24
                  refine pw_ld E (pc' := 58) (st' := [.ref 141]) rfl (fun _ => rfl) ?_
                  refine pw_getR (b := 160) I52 E (c := 125) (k := 30) (pc' := 61) rfl rfl rfl rfl rfl rfl rfl ?_
                  refine pw_ld E (pc' := 63) (st' := [pw_i k52_9, .ref 160]) rfl (fun _ => rfl) ?_
                  refine pw_ld E (pc' := 64) (st' := [pw_i 1, pw_i k52_9, .ref 160]) rfl (fun _ => rfl) ?_
                  refine pw_sub E (pc' := 65) rfl rfl ?_
                  refine pw_ald2 I52 E (c := 144) (pc' := 66) rfl rfl rfl (by decide) rfl (by decide) (by omega) (by omega) rfl (fun hf25a hf25b => ?_)
                  refine pw_ld E (pc' := 68) (st' := [pw_i x21, pw_i (pw_g gh52 144 ((k52_9 - 1).toNat))]) rfl (fun _ => rfl) ?_
                  refine pw_if2 E (pc' := 93) rfl (by decide) (by omega) (by omega) (by omega) (by omega) ?_ ?_
                  · intro hc26
                    change pw_g gh52 144 ((k52_9 - 1).toNat) ≤ x21 at hc26
                    refine pw_ld E (pc' := 94) (st' := [.ref 141]) rfl (fun _ => rfl) ?_
                    refine pw_getR (b := 160) I52 E (c := 125) (k := 30) (pc' := 97) rfl rfl rfl rfl rfl rfl rfl ?_
                    refine pw_ld E (pc' := 99) (st' := [pw_i k52_9, .ref 160]) rfl (fun _ => rfl) ?_
                    refine pw_ld E (pc' := 101) (st' := [pw_i x21, pw_i k52_9, .ref 160]) rfl (fun _ => rfl) ?_
                    refine pw_ast0 I52 E (c := 144) (pc' := 102) rfl rfl rfl (by decide) rfl (by decide) (by omega) (by omega) rfl (by omega) (by omega) (by omega) (by omega) rfl ?_
                    intro h27I h27E
                    generalize h27w : pw_w gh52 144 (k52_9.toNat) (pw_i x21) = h27 at h27I h27E ⊢
                    have h27F := E52.tr (h27E.wk (W' := [144]) (by first | rfl | simp))
                    refine pw_inc E (pc' := 105) (ls' := [some (.ref 141), some (pw_i bk), some (pw_i b), some (pw_i e), some (pw_i k0), some (pw_i sg), some (pw_i (k6_6 + 1)), some (pw_i k6_7), some (pw_i x21), some (pw_i k52_9)]) rfl rfl rfl rfl ?_
                    refine pw_inc E (pc' := 108) (ls' := [some (.ref 141), some (pw_i bk), some (pw_i b), some (pw_i e), some (pw_i k0), some (pw_i sg), some (pw_i (k6_6 + 1)), some (pw_i (k6_7 + 1)), some (pw_i x21), some (pw_i k52_9)]) rfl rfl rfl rfl ?_
                    refine pw_goto E (pc' := 6) rfl (by decide) ?_
                    exact ih6 _ (by omega) (k6_6 + 1) (k6_7 + 1) (some (pw_i x21)) (some (pw_i k52_9)) h27 h27I h27F (by omega) (by omega) (by omega) (by omega) (by omega) rfl
                  · intro hc28
                    change ¬ (pw_g gh52 144 ((k52_9 - 1).toNat) ≤ x21) at hc28
                    refine pw_ld E (pc' := 72) (st' := [.ref 141]) rfl (fun _ => rfl) ?_
                    refine pw_getR (b := 160) I52 E (c := 125) (k := 30) (pc' := 75) rfl rfl rfl rfl rfl rfl rfl ?_
                    refine pw_ld E (pc' := 77) (st' := [pw_i k52_9, .ref 160]) rfl (fun _ => rfl) ?_
                    refine pw_ld E (pc' := 78) (st' := [.ref 141, pw_i k52_9, .ref 160]) rfl (fun _ => rfl) ?_
                    refine pw_getR (b := 160) I52 E (c := 125) (k := 30) (pc' := 81) rfl rfl rfl rfl rfl rfl rfl ?_
                    refine pw_ld E (pc' := 83) (st' := [pw_i k52_9, .ref 160, pw_i k52_9, .ref 160]) rfl (fun _ => rfl) ?_
                    refine pw_ld E (pc' := 84) (st' := [pw_i 1, pw_i k52_9, .ref 160, pw_i k52_9, .ref 160]) rfl (fun _ => rfl) ?_
                    refine pw_sub E (pc' := 85) rfl rfl ?_
                    refine pw_ald2 I52 E (c := 144) (pc' := 86) rfl rfl rfl (by decide) rfl (by decide) (by omega) (by omega) rfl (fun hf29a hf29b => ?_)
                    refine pw_ast0 I52 E (c := 144) (pc' := 87) rfl rfl rfl (by decide) rfl (by decide) (by omega) (by omega) rfl (by omega) (by omega) (by omega) (by omega) rfl ?_
                    intro h30I h30E
                    generalize h30w : pw_w gh52 144 (k52_9.toNat) (pw_i (pw_g gh52 144 ((k52_9 - 1).toNat))) = h30 at h30I h30E ⊢
                    have h30F := E52.tr (h30E.wk (W' := [144]) (by first | rfl | simp))
                    refine pw_inc E (pc' := 90) (ls' := [some (.ref 141), some (pw_i bk), some (pw_i b), some (pw_i e), some (pw_i k0), some (pw_i sg), some (pw_i k6_6), some (pw_i k6_7), some (pw_i x21), some (pw_i (k52_9 + (-1)))]) rfl rfl rfl rfl ?_
                    refine pw_goto E (pc' := 52) rfl (by decide) ?_
                    exact ih52 _ (by omega) (k52_9 + (-1)) h30 h30I h30F (by omega) (by omega) (by omega) rfl
            exact L52 _ (k6_6) gh6 I6 E6 (by omega) (by omega) (by omega) rfl
  exact L6 _ (0) (0) (none) (none) h I E0 (by omega) (by omega) (by omega) (by omega) (by omega) rfl
set_option maxHeartbeats 4000000 in
theorem cm_231 {X : List (Nat × List Value)} {d : Nat} {h : pm_H} (hd : 5 ≤ d) (I : pw_I h) (a0 : Int) (ha01 : (-2147483648) ≤ a0) (ha02 : a0 ≤ 2147483647) (a1 : Int) (ha11 : (-2147483648) ≤ a1) (ha12 : a1 ≤ 2147483647) (a2 : Int) (ha21 : (-2147483648) ≤ a2) (ha22 : a2 ≤ 2147483647) (a3 : Int) (ha31 : (-2147483648) ≤ a3) (ha32 : a3 ≤ 2147483647) : pw X d h 231 0 [some (.ref 141), some (pw_i a0), some (pw_i a1), some (pw_i a2), some (pw_i a3), none] [] (fun h' v => pw_I h' ∧ pw_E [125, 144] h h' ∧ ∃ w : Int64, v = .inl (some (.long w))) := by
  have E : pm_ent 231 = some (5, 6, 12, 2, pmc_231) := rfl
  have E0 : pw_E [125, 144] h h := pw_E.rf _ _
  refine pw_ld E (pc' := 1) (st' := [.ref 141]) rfl (fun _ => rfl) ?_
  refine pw_ld E (pc' := 2) (st' := [pw_i a0, .ref 141]) rfl (fun _ => rfl) ?_
  refine pw_ld E (pc' := 3) (st' := [pw_i a1, pw_i a0, .ref 141]) rfl (fun _ => rfl) ?_
  refine pw_call (m' := 213) (As := [pw_i a0, pw_i a1]) (rest := [.ref 141]) (ls'' := [some (pw_i a0), some (pw_i a1)]) (Nat.le_trans (by decide) hd) E rfl (fun _ => pw_iS rfl rfl rfl) (rfl : pm_ent 213 = some (2, 2, 12, 1, pmc_213)) rfl rfl (cm_213 (pw_dp hd (by decide)) I (a0) (by omega) (by omega) (a1) (by omega) (by omega)) ?_
  rintro u2 v1 ⟨rfl, x3, rfl, hx3a, hx3b, hx3r⟩
  refine ⟨_, rfl, ?_⟩
  show pw X d h 231 6 [some (.ref 141), some (pw_i a0), some (pw_i a1), some (pw_i a2), some (pw_i a3), none] [pw_i x3, .ref 141] _
  change (x3 = 1 ∧ 0 ≤ a0 ∧ a0 ≤ 11 ∧ 0 ≤ a1 ∧ a1 ≤ 11) ∨ x3 = 0 at hx3r
  rcases (by omega : x3 = 1 ∨ x3 = 0) with hb4 | hb4
  · skip
    refine pw_if E (pc' := 33) rfl (by decide) (by omega) (by omega) ?_ ?_
    · intro hc5
      change x3 = (0 : Int) at hc5
      exfalso; omega
    · intro hc6
      change ¬ (x3 = (0 : Int)) at hc6
      refine pw_ld E (pc' := 10) (st' := [pw_i a2, .ref 141]) rfl (fun _ => rfl) ?_
      refine pw_ld E (pc' := 11) (st' := [pw_i 1, pw_i a2, .ref 141]) rfl (fun _ => rfl) ?_
      refine pw_bip E (pc' := 13) rfl rfl (by decide) ?_
      refine pw_call (m' := 202) (As := [pw_i a2, pw_i 1, pw_i 12]) (rest := [.ref 141]) (ls'' := [some (pw_i a2), some (pw_i 1), some (pw_i 12)]) (Nat.le_trans (by decide) hd) E rfl (fun _ => pw_iS rfl rfl rfl) (rfl : pm_ent 202 = some (3, 3, 12, 1, pmc_202)) rfl rfl (cm_202 (pw_dp hd (by decide)) I (a2) (by omega) (by omega) (1) (by omega) (by omega) (12) (by omega) (by omega)) ?_
      rintro u8 v7 ⟨rfl, x9, rfl, hx9a, hx9b, hx9r⟩
      refine ⟨_, rfl, ?_⟩
      show pw X d h 231 16 [some (.ref 141), some (pw_i a0), some (pw_i a1), some (pw_i a2), some (pw_i a3), none] [pw_i x9, .ref 141] _
      change (x9 = 1 ∧ 1 ≤ a2 ∧ a2 ≤ 12) ∨ (x9 = 0 ∧ ¬ (1 ≤ a2 ∧ a2 ≤ 12)) at hx9r
      rcases (by omega : x9 = 1 ∨ x9 = 0) with hb10 | hb10
      · skip
        refine pw_if E (pc' := 33) rfl (by decide) (by omega) (by omega) ?_ ?_
        · intro hc11
          change x9 = (0 : Int) at hc11
          exfalso; omega
        · intro hc12
          change ¬ (x9 = (0 : Int)) at hc12
          refine pw_ld E (pc' := 21) (st' := [pw_i a3, .ref 141]) rfl (fun _ => rfl) ?_
          refine pw_ld E (pc' := 22) (st' := [pw_i 0, pw_i a3, .ref 141]) rfl (fun _ => rfl) ?_
          refine pw_ld E (pc' := 23) (st' := [pw_i 3, pw_i 0, pw_i a3, .ref 141]) rfl (fun _ => rfl) ?_
          refine pw_call (m' := 202) (As := [pw_i a3, pw_i 0, pw_i 3]) (rest := [.ref 141]) (ls'' := [some (pw_i a3), some (pw_i 0), some (pw_i 3)]) (Nat.le_trans (by decide) hd) E rfl (fun _ => pw_iS rfl rfl rfl) (rfl : pm_ent 202 = some (3, 3, 12, 1, pmc_202)) rfl rfl (cm_202 (pw_dp hd (by decide)) I (a3) (by omega) (by omega) (0) (by omega) (by omega) (3) (by omega) (by omega)) ?_
          rintro u14 v13 ⟨rfl, x15, rfl, hx15a, hx15b, hx15r⟩
          refine ⟨_, rfl, ?_⟩
          show pw X d h 231 26 [some (.ref 141), some (pw_i a0), some (pw_i a1), some (pw_i a2), some (pw_i a3), none] [pw_i x15, .ref 141] _
          change (x15 = 1 ∧ 0 ≤ a3 ∧ a3 ≤ 3) ∨ (x15 = 0 ∧ ¬ (0 ≤ a3 ∧ a3 ≤ 3)) at hx15r
          rcases (by omega : x15 = 1 ∨ x15 = 0) with hb16 | hb16
          · skip
            refine pw_if E (pc' := 33) rfl (by decide) (by omega) (by omega) ?_ ?_
            · intro hc17
              change x15 = (0 : Int) at hc17
              exfalso; omega
            · intro hc18
              change ¬ (x15 = (0 : Int)) at hc18
              refine pw_ld E (pc' := 30) (st' := [pw_i 0, .ref 141]) rfl (fun _ => rfl) ?_
              refine pw_goto E (pc' := 34) rfl (by decide) ?_
              refine pw_putI I E (c := 125) (k := 0) (pc' := 37) rfl rfl rfl rfl (by omega) (by omega) (by omega) (by omega) rfl rfl ?_
              intro h19I h19E
              generalize h19w : pw_w h 125 0 (pw_i 0) = h19 at h19I h19E ⊢
              have h19F := E0.tr (h19E.wk (W' := [125, 144]) (by first | rfl | simp))
              refine pw_ld E (pc' := 38) (st' := [.ref 141]) rfl (fun _ => rfl) ?_
              have he21 : pw_g h19 125 0 = 0 := by rw [← h19w]; exact pw_g_eq (c := 125) (k := 0) I rfl rfl (by omega) (by omega)
              refine pw_getI2 h19I E (c := 125) (k := 0) (pc' := 41) rfl rfl rfl rfl rfl rfl (fun hf20a hf20b => ?_)
              refine pw_if E (pc' := 46) rfl (by decide) (by omega) (by omega) ?_ ?_
              · intro hc22
                change pw_g h19 125 0 ≤ (0 : Int) at hc22
                refine pw_ld E (pc' := 47) (st' := [.ref 141]) rfl (fun _ => rfl) ?_
                refine pw_ld E (pc' := 48) (st' := [pw_i a0, .ref 141]) rfl (fun _ => rfl) ?_
                refine pw_ld E (pc' := 49) (st' := [pw_i a1, pw_i a0, .ref 141]) rfl (fun _ => rfl) ?_
                refine pw_ld E (pc' := 50) (st' := [pw_i ((-1)), pw_i a1, pw_i a0, .ref 141]) rfl (fun _ => rfl) ?_
                obtain ⟨f23l, f23h, -⟩ := pw_obj (c := 125) h19I rfl
                refine pw_call (m' := 218) (As := [.ref 141, pw_i a0, pw_i a1, pw_i ((-1))]) (rest := []) (ls'' := [some (.ref 141), some (pw_i a0), some (pw_i a1), some (pw_i ((-1))), none]) (Nat.le_trans (by decide) hd) E rfl (fun _ => pw_iV rfl rfl rfl rfl (pw_cellI f23h rfl)) (rfl : pm_ent 218 = some (4, 5, 12, 1, pmc_218)) rfl rfl (cm_218 (pw_dp hd (by decide)) h19I (a0) (by omega) (by omega) (a1) (by omega) (by omega) ((-1)) (by omega) (by omega)) ?_
                rintro h24 v25 ⟨h24I, h24E, x26, rfl, hx26a, hx26b, hx26r⟩
                refine ⟨_, rfl, ?_⟩
                have h24F := h19F.tr (h24E.wk (W' := [125, 144]) (by first | rfl | simp))
                show pw X d h24 231 53 [some (.ref 141), some (pw_i a0), some (pw_i a1), some (pw_i a2), some (pw_i a3), none] [pw_i x26] _
                change (x26 = 1 ∧ 1 ≤ pw_gm h24 125 25 ∧ pw_gm h24 125 25 ≤ 576) ∨ x26 = 0 at hx26r
                refine pw_ld E (pc' := 54) (st' := []) rfl (fun _ => rfl) ?_
                refine pw_ld E (pc' := 55) (st' := [.ref 141]) rfl (fun _ => rfl) ?_
                refine pw_ld E (pc' := 56) (st' := [.ref 141, .ref 141]) rfl (fun _ => rfl) ?_
                refine pw_getM h24I E (c := 125) (k := 27) (pc' := 59) rfl rfl rfl rfl rfl rfl (fun hf27a hf27b => ?_)
                refine pw_ld E (pc' := 60) (st' := [pw_i a2, .long (Int64.ofInt (pw_gm h24 125 27)), .ref 141]) rfl (fun _ => rfl) ?_
                refine pw_i2l E (pc' := 61) rfl rfl (by omega) (by omega) ?_
                refine pw_lcmpC E (pc' := 62) rfl rfl (by omega) (by omega) (by omega) (by omega) (fun c28 hc28 => ?_)
                refine pw_if E (pc' := 75) rfl (by decide) (by omega) (by omega) ?_ ?_
                · intro hc29
                  change c28 < (0 : Int) at hc29
                  refine pw_ld E (pc' := 76) (st' := [pw_i 1, .ref 141]) rfl (fun _ => rfl) ?_
                  refine pw_goto E (pc' := 80) rfl (by decide) ?_
                  refine pw_putI h24I E (c := 125) (k := 0) (pc' := 83) rfl rfl rfl rfl (by omega) (by omega) (by omega) (by omega) rfl rfl ?_
                  intro h30I h30E
                  generalize h30w : pw_w h24 125 0 (pw_i 1) = h30 at h30I h30E ⊢
                  have h30F := h24F.tr (h30E.wk (W' := [125, 144]) (by first | rfl | simp))
                  refine pw_ld E (pc' := 84) (st' := [.ref 141]) rfl (fun _ => rfl) ?_
                  have he32 : pw_g h30 125 0 = 1 := by rw [← h30w]; exact pw_g_eq (c := 125) (k := 0) h24I rfl rfl (by omega) (by omega)
                  refine pw_getI2 h30I E (c := 125) (k := 0) (pc' := 87) rfl rfl rfl rfl rfl rfl (fun hf31a hf31b => ?_)
                  refine pw_if E (pc' := 92) rfl (by decide) (by omega) (by omega) ?_ ?_
                  · intro hc33
                    change pw_g h30 125 0 ≤ (0 : Int) at hc33
                    exfalso; omega
                  · intro hc34
                    change ¬ (pw_g h30 125 0 ≤ (0 : Int)) at hc34
                    refine pw_ld E (pc' := 91) (st' := [.long (Int64.ofInt 0)]) rfl (fun _ => rfl) ?_
                    refine pw_lret E rfl ?_
                    exact ⟨h30I, h30F, ⟨_, rfl⟩⟩
                · intro hc35
                  change ¬ (c28 < (0 : Int)) at hc35
                  refine pw_ld E (pc' := 66) (st' := [.ref 141, .ref 141]) rfl (fun _ => rfl) ?_
                  refine pw_getM h24I E (c := 125) (k := 29) (pc' := 69) rfl rfl rfl rfl rfl rfl (fun hf36a hf36b => ?_)
                  refine pw_ld E (pc' := 70) (st' := [pw_i a2, .long (Int64.ofInt (pw_gm h24 125 29)), .ref 141]) rfl (fun _ => rfl) ?_
                  refine pw_i2l E (pc' := 71) rfl rfl (by omega) (by omega) ?_
                  refine pw_lcmpC E (pc' := 72) rfl rfl (by omega) (by omega) (by omega) (by omega) (fun c37 hc37 => ?_)
                  refine pw_if E (pc' := 79) rfl (by decide) (by omega) (by omega) ?_ ?_
                  · intro hc38
                    change (0 : Int) ≤ c37 at hc38
                    refine pw_ld E (pc' := 80) (st' := [pw_i 0, .ref 141]) rfl (fun _ => rfl) ?_
                    refine pw_putI h24I E (c := 125) (k := 0) (pc' := 83) rfl rfl rfl rfl (by omega) (by omega) (by omega) (by omega) rfl rfl ?_
                    intro h39I h39E
                    generalize h39w : pw_w h24 125 0 (pw_i 0) = h39 at h39I h39E ⊢
                    have h39F := h24F.tr (h39E.wk (W' := [125, 144]) (by first | rfl | simp))
                    refine pw_ld E (pc' := 84) (st' := [.ref 141]) rfl (fun _ => rfl) ?_
                    have he41 : pw_g h39 125 0 = 0 := by rw [← h39w]; exact pw_g_eq (c := 125) (k := 0) h24I rfl rfl (by omega) (by omega)
                    refine pw_getI2 h39I E (c := 125) (k := 0) (pc' := 87) rfl rfl rfl rfl rfl rfl (fun hf40a hf40b => ?_)
                    refine pw_if E (pc' := 92) rfl (by decide) (by omega) (by omega) ?_ ?_
                    · intro hc42
                      change pw_g h39 125 0 ≤ (0 : Int) at hc42
                      refine pw_ld E (pc' := 94) (st' := [pw_i a3]) rfl (fun _ => rfl) ?_
                      refine pw_ld E (pc' := 95) (st' := [pw_i 2, pw_i a3]) rfl (fun _ => rfl) ?_
                      refine pw_if2 E (pc' := 102) rfl (by decide) (by omega) (by omega) (by decide) (by decide) ?_ ?_
                      · intro hc43
                        change (2 : Int) ≤ a3 at hc43
                        refine pw_ld E (pc' := 103) (st' := [pw_i ((-1))]) rfl (fun _ => rfl) ?_
                        refine pw_ist E (pc' := 105) (ls' := [some (.ref 141), some (pw_i a0), some (pw_i a1), some (pw_i a2), some (pw_i a3), some (pw_i ((-1)))]) rfl rfl rfl rfl ?_
                        refine pw_ld E (pc' := 106) (st' := [.ref 141]) rfl (fun _ => rfl) ?_
                        refine pw_ld E (pc' := 107) (st' := [.ref 141, .ref 141]) rfl (fun _ => rfl) ?_
                        refine pw_ld E (pc' := 108) (st' := [pw_i 0, .ref 141, .ref 141]) rfl (fun _ => rfl) ?_
                        refine pw_ld E (pc' := 109) (st' := [pw_i a0, pw_i 0, .ref 141, .ref 141]) rfl (fun _ => rfl) ?_
                        refine pw_ld E (pc' := 110) (st' := [pw_i a1, pw_i a0, pw_i 0, .ref 141, .ref 141]) rfl (fun _ => rfl) ?_
                        refine pw_ld E (pc' := 111) (st' := [pw_i a2, pw_i a1, pw_i a0, pw_i 0, .ref 141, .ref 141]) rfl (fun _ => rfl) ?_
                        refine pw_ld E (pc' := 113) (st' := [pw_i ((-1)), pw_i a2, pw_i a1, pw_i a0, pw_i 0, .ref 141, .ref 141]) rfl (fun _ => rfl) ?_
                        obtain ⟨f44l, f44h, -⟩ := pw_obj (c := 125) h39I rfl
                        refine pw_call (m' := 232) (As := [.ref 141, pw_i 0, pw_i a0, pw_i a1, pw_i a2, pw_i ((-1))]) (rest := [.ref 141]) (ls'' := [some (.ref 141), some (pw_i 0), some (pw_i a0), some (pw_i a1), some (pw_i a2), some (pw_i ((-1))), none, none, none, none]) (Nat.le_trans (by decide) hd) E rfl (fun _ => pw_iV rfl rfl rfl rfl (pw_cellI f44h rfl)) (rfl : pm_ent 232 = some (6, 10, 12, 2, pmc_232)) rfl rfl (cm_232 (pw_dp hd (by decide)) h39I (0) (by omega) (by omega) (a0) (by omega) (by omega) (a1) (by omega) (by omega) (a2) (by omega) (by omega) ((-1)) (by omega) (by omega)) ?_
                        rintro h45 v46 ⟨h45I, h45E, w47, rfl⟩
                        refine ⟨_, rfl, ?_⟩
                        have h45F := h39F.tr (h45E.wk (W' := [125, 144]) (by first | rfl | simp))
                        show pw X d h45 231 116 [some (.ref 141), some (pw_i a0), some (pw_i a1), some (pw_i a2), some (pw_i a3), some (pw_i ((-1)))] [.long w47, .ref 141] _
                        refine pw_ld E (pc' := 117) (st' := [.ref 141, .long w47, .ref 141]) rfl (fun _ => rfl) ?_
                        refine pw_ld E (pc' := 118) (st' := [pw_i 1, .ref 141, .long w47, .ref 141]) rfl (fun _ => rfl) ?_
                        refine pw_ld E (pc' := 119) (st' := [pw_i a0, pw_i 1, .ref 141, .long w47, .ref 141]) rfl (fun _ => rfl) ?_
                        refine pw_ld E (pc' := 120) (st' := [pw_i a1, pw_i a0, pw_i 1, .ref 141, .long w47, .ref 141]) rfl (fun _ => rfl) ?_
                        refine pw_ld E (pc' := 121) (st' := [pw_i a2, pw_i a1, pw_i a0, pw_i 1, .ref 141, .long w47, .ref 141]) rfl (fun _ => rfl) ?_
                        refine pw_ld E (pc' := 123) (st' := [pw_i ((-1)), pw_i a2, pw_i a1, pw_i a0, pw_i 1, .ref 141, .long w47, .ref 141]) rfl (fun _ => rfl) ?_
                        refine pw_ineg E (pc' := 124) rfl rfl ?_
                        obtain ⟨f48l, f48h, -⟩ := pw_obj (c := 125) h45I rfl
                        refine pw_call (m' := 232) (As := [.ref 141, pw_i 1, pw_i a0, pw_i a1, pw_i a2, pw_i (-(-1))]) (rest := [.long w47, .ref 141]) (ls'' := [some (.ref 141), some (pw_i 1), some (pw_i a0), some (pw_i a1), some (pw_i a2), some (pw_i (-(-1))), none, none, none, none]) (Nat.le_trans (by decide) hd) E rfl (fun _ => pw_iV rfl rfl rfl rfl (pw_cellI f48h rfl)) (rfl : pm_ent 232 = some (6, 10, 12, 2, pmc_232)) rfl rfl (cm_232 (pw_dp hd (by decide)) h45I (1) (by omega) (by omega) (a0) (by omega) (by omega) (a1) (by omega) (by omega) (a2) (by omega) (by omega) (-(-1)) (by omega) (by omega)) ?_
                        rintro h49 v50 ⟨h49I, h49E, w51, rfl⟩
                        refine ⟨_, rfl, ?_⟩
                        have h49F := h45F.tr (h49E.wk (W' := [125, 144]) (by first | rfl | simp))
                        show pw X d h49 231 127 [some (.ref 141), some (pw_i a0), some (pw_i a1), some (pw_i a2), some (pw_i a3), some (pw_i ((-1)))] [.long w51, .long w47, .ref 141] _
                        refine pw_ld E (pc' := 128) (st' := [.long (w47 - w51), .ref 141]) rfl (fun _ => rfl) ?_
                        refine pw_putL h49I E (c := 125) (k := 24) (pc' := 131) rfl rfl rfl rfl rfl rfl ?_
                        intro h52I h52E
                        generalize h52w : pw_w h49 125 24 (.long (w47 - w51)) = h52 at h52I h52E ⊢
                        have h52F := h49F.tr (h52E.wk (W' := [125, 144]) (by first | rfl | simp))
                        refine pw_ld E (pc' := 132) (st' := [.ref 141]) rfl (fun _ => rfl) ?_
                        refine pw_ld E (pc' := 133) (st' := [pw_i a2, .ref 141]) rfl (fun _ => rfl) ?_
                        refine pw_i2l E (pc' := 134) rfl rfl (by omega) (by omega) ?_
                        refine pw_putM h52I E (c := 125) (k := 25) (pc' := 137) rfl rfl rfl rfl (by omega) (by omega) (by omega) (by omega) rfl rfl ?_
                        intro h53I h53E
                        generalize h53w : pw_w h52 125 25 (.long (Int64.ofInt a2)) = h53 at h53I h53E ⊢
                        have h53F := h52F.tr (h53E.wk (W' := [125, 144]) (by first | rfl | simp))
                        refine pw_ld E (pc' := 138) (st' := [.ref 141]) rfl (fun _ => rfl) ?_
                        refine pw_ld E (pc' := 140) (st' := [pw_i a3, .ref 141]) rfl (fun _ => rfl) ?_
                        refine pw_ld E (pc' := 141) (st' := [pw_i 2, pw_i a3, .ref 141]) rfl (fun _ => rfl) ?_
                        refine pw_rem E (pc' := 142) rfl rfl (by omega) (by omega) (by decide) (by decide) ?_
                        have he54 : pw_gm h53 125 25 = a2 := by rw [← h53w]; exact pw_gm_eq (c := 125) (k := 25) h52I rfl rfl (by omega) (by omega)
                        obtain ⟨f55l, f55h, -⟩ := pw_obj (c := 125) h53I rfl
                        refine pw_call (m' := 222) (As := [.ref 141, pw_i (a3 % 2)]) (rest := []) (ls'' := [some (.ref 141), some (pw_i (a3 % 2)), none, none]) (Nat.le_trans (by decide) hd) E rfl (fun _ => pw_iV rfl rfl rfl rfl (pw_cellI f55h rfl)) (rfl : pm_ent 222 = some (2, 4, 12, 2, pmc_222)) rfl rfl (cm_222 (pw_dp hd (by decide)) h53I (a3 % 2) (by omega) (by omega) (by omega)) ?_
                        rintro u57 v56 ⟨rfl, w58, rfl⟩
                        refine ⟨_, rfl, ?_⟩
                        show pw X d h53 231 145 [some (.ref 141), some (pw_i a0), some (pw_i a1), some (pw_i a2), some (pw_i a3), some (pw_i ((-1)))] [.long w58] _
                        refine pw_lret E rfl ?_
                        exact ⟨h53I, h53F, ⟨_, rfl⟩⟩
                      · intro hc59
                        change ¬ ((2 : Int) ≤ a3) at hc59
                        refine pw_ld E (pc' := 99) (st' := [pw_i 1]) rfl (fun _ => rfl) ?_
                        refine pw_goto E (pc' := 103) rfl (by decide) ?_
                        refine pw_ist E (pc' := 105) (ls' := [some (.ref 141), some (pw_i a0), some (pw_i a1), some (pw_i a2), some (pw_i a3), some (pw_i 1)]) rfl rfl rfl rfl ?_
                        refine pw_ld E (pc' := 106) (st' := [.ref 141]) rfl (fun _ => rfl) ?_
                        refine pw_ld E (pc' := 107) (st' := [.ref 141, .ref 141]) rfl (fun _ => rfl) ?_
                        refine pw_ld E (pc' := 108) (st' := [pw_i 0, .ref 141, .ref 141]) rfl (fun _ => rfl) ?_
                        refine pw_ld E (pc' := 109) (st' := [pw_i a0, pw_i 0, .ref 141, .ref 141]) rfl (fun _ => rfl) ?_
                        refine pw_ld E (pc' := 110) (st' := [pw_i a1, pw_i a0, pw_i 0, .ref 141, .ref 141]) rfl (fun _ => rfl) ?_
                        refine pw_ld E (pc' := 111) (st' := [pw_i a2, pw_i a1, pw_i a0, pw_i 0, .ref 141, .ref 141]) rfl (fun _ => rfl) ?_
                        refine pw_ld E (pc' := 113) (st' := [pw_i 1, pw_i a2, pw_i a1, pw_i a0, pw_i 0, .ref 141, .ref 141]) rfl (fun _ => rfl) ?_
                        obtain ⟨f60l, f60h, -⟩ := pw_obj (c := 125) h39I rfl
                        refine pw_call (m' := 232) (As := [.ref 141, pw_i 0, pw_i a0, pw_i a1, pw_i a2, pw_i 1]) (rest := [.ref 141]) (ls'' := [some (.ref 141), some (pw_i 0), some (pw_i a0), some (pw_i a1), some (pw_i a2), some (pw_i 1), none, none, none, none]) (Nat.le_trans (by decide) hd) E rfl (fun _ => pw_iV rfl rfl rfl rfl (pw_cellI f60h rfl)) (rfl : pm_ent 232 = some (6, 10, 12, 2, pmc_232)) rfl rfl (cm_232 (pw_dp hd (by decide)) h39I (0) (by omega) (by omega) (a0) (by omega) (by omega) (a1) (by omega) (by omega) (a2) (by omega) (by omega) (1) (by omega) (by omega)) ?_
                        rintro h61 v62 ⟨h61I, h61E, w63, rfl⟩
                        refine ⟨_, rfl, ?_⟩
                        have h61F := h39F.tr (h61E.wk (W' := [125, 144]) (by first | rfl | simp))
                        show pw X d h61 231 116 [some (.ref 141), some (pw_i a0), some (pw_i a1), some (pw_i a2), some (pw_i a3), some (pw_i 1)] [.long w63, .ref 141] _
                        refine pw_ld E (pc' := 117) (st' := [.ref 141, .long w63, .ref 141]) rfl (fun _ => rfl) ?_
                        refine pw_ld E (pc' := 118) (st' := [pw_i 1, .ref 141, .long w63, .ref 141]) rfl (fun _ => rfl) ?_
                        refine pw_ld E (pc' := 119) (st' := [pw_i a0, pw_i 1, .ref 141, .long w63, .ref 141]) rfl (fun _ => rfl) ?_
                        refine pw_ld E (pc' := 120) (st' := [pw_i a1, pw_i a0, pw_i 1, .ref 141, .long w63, .ref 141]) rfl (fun _ => rfl) ?_
                        refine pw_ld E (pc' := 121) (st' := [pw_i a2, pw_i a1, pw_i a0, pw_i 1, .ref 141, .long w63, .ref 141]) rfl (fun _ => rfl) ?_
                        refine pw_ld E (pc' := 123) (st' := [pw_i 1, pw_i a2, pw_i a1, pw_i a0, pw_i 1, .ref 141, .long w63, .ref 141]) rfl (fun _ => rfl) ?_
                        refine pw_ineg E (pc' := 124) rfl rfl ?_
                        obtain ⟨f64l, f64h, -⟩ := pw_obj (c := 125) h61I rfl
                        refine pw_call (m' := 232) (As := [.ref 141, pw_i 1, pw_i a0, pw_i a1, pw_i a2, pw_i (-1)]) (rest := [.long w63, .ref 141]) (ls'' := [some (.ref 141), some (pw_i 1), some (pw_i a0), some (pw_i a1), some (pw_i a2), some (pw_i (-1)), none, none, none, none]) (Nat.le_trans (by decide) hd) E rfl (fun _ => pw_iV rfl rfl rfl rfl (pw_cellI f64h rfl)) (rfl : pm_ent 232 = some (6, 10, 12, 2, pmc_232)) rfl rfl (cm_232 (pw_dp hd (by decide)) h61I (1) (by omega) (by omega) (a0) (by omega) (by omega) (a1) (by omega) (by omega) (a2) (by omega) (by omega) (-1) (by omega) (by omega)) ?_
                        rintro h65 v66 ⟨h65I, h65E, w67, rfl⟩
                        refine ⟨_, rfl, ?_⟩
                        have h65F := h61F.tr (h65E.wk (W' := [125, 144]) (by first | rfl | simp))
                        show pw X d h65 231 127 [some (.ref 141), some (pw_i a0), some (pw_i a1), some (pw_i a2), some (pw_i a3), some (pw_i 1)] [.long w67, .long w63, .ref 141] _
                        refine pw_ld E (pc' := 128) (st' := [.long (w63 - w67), .ref 141]) rfl (fun _ => rfl) ?_
                        refine pw_putL h65I E (c := 125) (k := 24) (pc' := 131) rfl rfl rfl rfl rfl rfl ?_
                        intro h68I h68E
                        generalize h68w : pw_w h65 125 24 (.long (w63 - w67)) = h68 at h68I h68E ⊢
                        have h68F := h65F.tr (h68E.wk (W' := [125, 144]) (by first | rfl | simp))
                        refine pw_ld E (pc' := 132) (st' := [.ref 141]) rfl (fun _ => rfl) ?_
                        refine pw_ld E (pc' := 133) (st' := [pw_i a2, .ref 141]) rfl (fun _ => rfl) ?_
                        refine pw_i2l E (pc' := 134) rfl rfl (by omega) (by omega) ?_
                        refine pw_putM h68I E (c := 125) (k := 25) (pc' := 137) rfl rfl rfl rfl (by omega) (by omega) (by omega) (by omega) rfl rfl ?_
                        intro h69I h69E
                        generalize h69w : pw_w h68 125 25 (.long (Int64.ofInt a2)) = h69 at h69I h69E ⊢
                        have h69F := h68F.tr (h69E.wk (W' := [125, 144]) (by first | rfl | simp))
                        refine pw_ld E (pc' := 138) (st' := [.ref 141]) rfl (fun _ => rfl) ?_
                        refine pw_ld E (pc' := 140) (st' := [pw_i a3, .ref 141]) rfl (fun _ => rfl) ?_
                        refine pw_ld E (pc' := 141) (st' := [pw_i 2, pw_i a3, .ref 141]) rfl (fun _ => rfl) ?_
                        refine pw_rem E (pc' := 142) rfl rfl (by omega) (by omega) (by decide) (by decide) ?_
                        have he70 : pw_gm h69 125 25 = a2 := by rw [← h69w]; exact pw_gm_eq (c := 125) (k := 25) h68I rfl rfl (by omega) (by omega)
                        obtain ⟨f71l, f71h, -⟩ := pw_obj (c := 125) h69I rfl
                        refine pw_call (m' := 222) (As := [.ref 141, pw_i (a3 % 2)]) (rest := []) (ls'' := [some (.ref 141), some (pw_i (a3 % 2)), none, none]) (Nat.le_trans (by decide) hd) E rfl (fun _ => pw_iV rfl rfl rfl rfl (pw_cellI f71h rfl)) (rfl : pm_ent 222 = some (2, 4, 12, 2, pmc_222)) rfl rfl (cm_222 (pw_dp hd (by decide)) h69I (a3 % 2) (by omega) (by omega) (by omega)) ?_
                        rintro u73 v72 ⟨rfl, w74, rfl⟩
                        refine ⟨_, rfl, ?_⟩
                        show pw X d h69 231 145 [some (.ref 141), some (pw_i a0), some (pw_i a1), some (pw_i a2), some (pw_i a3), some (pw_i 1)] [.long w74] _
                        refine pw_lret E rfl ?_
                        exact ⟨h69I, h69F, ⟨_, rfl⟩⟩
                    · intro hc75
                      change ¬ (pw_g h39 125 0 ≤ (0 : Int)) at hc75
                      exfalso; omega
                  · intro hc76
                    change ¬ ((0 : Int) ≤ c37) at hc76
                    refine pw_ld E (pc' := 76) (st' := [pw_i 1, .ref 141]) rfl (fun _ => rfl) ?_
                    refine pw_goto E (pc' := 80) rfl (by decide) ?_
                    refine pw_putI h24I E (c := 125) (k := 0) (pc' := 83) rfl rfl rfl rfl (by omega) (by omega) (by omega) (by omega) rfl rfl ?_
                    intro h77I h77E
                    generalize h77w : pw_w h24 125 0 (pw_i 1) = h77 at h77I h77E ⊢
                    have h77F := h24F.tr (h77E.wk (W' := [125, 144]) (by first | rfl | simp))
                    refine pw_ld E (pc' := 84) (st' := [.ref 141]) rfl (fun _ => rfl) ?_
                    have he79 : pw_g h77 125 0 = 1 := by rw [← h77w]; exact pw_g_eq (c := 125) (k := 0) h24I rfl rfl (by omega) (by omega)
                    refine pw_getI2 h77I E (c := 125) (k := 0) (pc' := 87) rfl rfl rfl rfl rfl rfl (fun hf78a hf78b => ?_)
                    refine pw_if E (pc' := 92) rfl (by decide) (by omega) (by omega) ?_ ?_
                    · intro hc80
                      change pw_g h77 125 0 ≤ (0 : Int) at hc80
                      exfalso; omega
                    · intro hc81
                      change ¬ (pw_g h77 125 0 ≤ (0 : Int)) at hc81
                      refine pw_ld E (pc' := 91) (st' := [.long (Int64.ofInt 0)]) rfl (fun _ => rfl) ?_
                      refine pw_lret E rfl ?_
                      exact ⟨h77I, h77F, ⟨_, rfl⟩⟩
              · intro hc82
                change ¬ (pw_g h19 125 0 ≤ (0 : Int)) at hc82
                exfalso; omega
          · skip
            refine pw_if E (pc' := 33) rfl (by decide) (by omega) (by omega) ?_ ?_
            · intro hc84
              change x15 = (0 : Int) at hc84
              refine pw_ld E (pc' := 34) (st' := [pw_i 1, .ref 141]) rfl (fun _ => rfl) ?_
              refine pw_putI I E (c := 125) (k := 0) (pc' := 37) rfl rfl rfl rfl (by omega) (by omega) (by omega) (by omega) rfl rfl ?_
              intro h85I h85E
              generalize h85w : pw_w h 125 0 (pw_i 1) = h85 at h85I h85E ⊢
              have h85F := E0.tr (h85E.wk (W' := [125, 144]) (by first | rfl | simp))
              refine pw_ld E (pc' := 38) (st' := [.ref 141]) rfl (fun _ => rfl) ?_
              have he87 : pw_g h85 125 0 = 1 := by rw [← h85w]; exact pw_g_eq (c := 125) (k := 0) I rfl rfl (by omega) (by omega)
              refine pw_getI2 h85I E (c := 125) (k := 0) (pc' := 41) rfl rfl rfl rfl rfl rfl (fun hf86a hf86b => ?_)
              refine pw_if E (pc' := 46) rfl (by decide) (by omega) (by omega) ?_ ?_
              · intro hc88
                change pw_g h85 125 0 ≤ (0 : Int) at hc88
                exfalso; omega
              · intro hc89
                change ¬ (pw_g h85 125 0 ≤ (0 : Int)) at hc89
                refine pw_ld E (pc' := 45) (st' := [.long (Int64.ofInt 0)]) rfl (fun _ => rfl) ?_
                refine pw_lret E rfl ?_
                exact ⟨h85I, h85F, ⟨_, rfl⟩⟩
            · intro hc90
              change ¬ (x15 = (0 : Int)) at hc90
              exfalso; omega
      · skip
        refine pw_if E (pc' := 33) rfl (by decide) (by omega) (by omega) ?_ ?_
        · intro hc92
          change x9 = (0 : Int) at hc92
          refine pw_ld E (pc' := 34) (st' := [pw_i 1, .ref 141]) rfl (fun _ => rfl) ?_
          refine pw_putI I E (c := 125) (k := 0) (pc' := 37) rfl rfl rfl rfl (by omega) (by omega) (by omega) (by omega) rfl rfl ?_
          intro h93I h93E
          generalize h93w : pw_w h 125 0 (pw_i 1) = h93 at h93I h93E ⊢
          have h93F := E0.tr (h93E.wk (W' := [125, 144]) (by first | rfl | simp))
          refine pw_ld E (pc' := 38) (st' := [.ref 141]) rfl (fun _ => rfl) ?_
          have he95 : pw_g h93 125 0 = 1 := by rw [← h93w]; exact pw_g_eq (c := 125) (k := 0) I rfl rfl (by omega) (by omega)
          refine pw_getI2 h93I E (c := 125) (k := 0) (pc' := 41) rfl rfl rfl rfl rfl rfl (fun hf94a hf94b => ?_)
          refine pw_if E (pc' := 46) rfl (by decide) (by omega) (by omega) ?_ ?_
          · intro hc96
            change pw_g h93 125 0 ≤ (0 : Int) at hc96
            exfalso; omega
          · intro hc97
            change ¬ (pw_g h93 125 0 ≤ (0 : Int)) at hc97
            refine pw_ld E (pc' := 45) (st' := [.long (Int64.ofInt 0)]) rfl (fun _ => rfl) ?_
            refine pw_lret E rfl ?_
            exact ⟨h93I, h93F, ⟨_, rfl⟩⟩
        · intro hc98
          change ¬ (x9 = (0 : Int)) at hc98
          exfalso; omega
  · skip
    refine pw_if E (pc' := 33) rfl (by decide) (by omega) (by omega) ?_ ?_
    · intro hc100
      change x3 = (0 : Int) at hc100
      refine pw_ld E (pc' := 34) (st' := [pw_i 1, .ref 141]) rfl (fun _ => rfl) ?_
      refine pw_putI I E (c := 125) (k := 0) (pc' := 37) rfl rfl rfl rfl (by omega) (by omega) (by omega) (by omega) rfl rfl ?_
      intro h101I h101E
      generalize h101w : pw_w h 125 0 (pw_i 1) = h101 at h101I h101E ⊢
      have h101F := E0.tr (h101E.wk (W' := [125, 144]) (by first | rfl | simp))
      refine pw_ld E (pc' := 38) (st' := [.ref 141]) rfl (fun _ => rfl) ?_
      have he103 : pw_g h101 125 0 = 1 := by rw [← h101w]; exact pw_g_eq (c := 125) (k := 0) I rfl rfl (by omega) (by omega)
      refine pw_getI2 h101I E (c := 125) (k := 0) (pc' := 41) rfl rfl rfl rfl rfl rfl (fun hf102a hf102b => ?_)
      refine pw_if E (pc' := 46) rfl (by decide) (by omega) (by omega) ?_ ?_
      · intro hc104
        change pw_g h101 125 0 ≤ (0 : Int) at hc104
        exfalso; omega
      · intro hc105
        change ¬ (pw_g h101 125 0 ≤ (0 : Int)) at hc105
        refine pw_ld E (pc' := 45) (st' := [.long (Int64.ofInt 0)]) rfl (fun _ => rfl) ?_
        refine pw_lret E rfl ?_
        exact ⟨h101I, h101F, ⟨_, rfl⟩⟩
    · intro hc106
      change ¬ (x3 = (0 : Int)) at hc106
      exfalso; omega
set_option maxHeartbeats 4000000 in
theorem cm_235 {X : List (Nat × List Value)} {d : Nat} {h : pm_H} (hd : 5 ≤ d) (I : pw_I h) (mo : Int) (hmo1 : (-2147483648) ≤ mo) (hmo2 : mo ≤ 2147483647) (wt : Int) (hwt1 : (-2147483648) ≤ wt) (hwt2 : wt ≤ 2147483647) : pw X d h 235 0 [some (.ref 141), some (pw_i mo), some (pw_i wt), none, none, none, none, none, none, none, none] [] (fun h' v => pw_I h' ∧ pw_E [125] h h' ∧ ∃ w : Int64, v = .inl (some (.long w))) := by
  have E : pm_ent 235 = some (3, 11, 12, 2, pmc_235) := rfl
  have E0 : pw_E [125] h h := pw_E.rf _ _
  refine pw_ld E (pc' := 1) (st' := [.ref 141]) rfl (fun _ => rfl) ?_
  refine pw_ld E (pc' := 2) (st' := [pw_i 0, .ref 141]) rfl (fun _ => rfl) ?_
  refine pw_putI I E (c := 125) (k := 0) (pc' := 5) rfl rfl rfl rfl (by omega) (by omega) (by omega) (by omega) rfl rfl ?_
  intro h1I h1E
  generalize h1w : pw_w h 125 0 (pw_i 0) = h1 at h1I h1E ⊢
  have h1F := E0.tr (h1E.wk (W' := [125]) (by first | rfl | simp))
  refine pw_ld E (pc' := 6) (st' := [pw_i mo]) rfl (fun _ => rfl) ?_
  refine pw_ld E (pc' := 7) (st' := [pw_i 1, pw_i mo]) rfl (fun _ => rfl) ?_
  refine pw_bip E (pc' := 9) rfl rfl (by decide) ?_
  refine pw_call (m' := 202) (As := [pw_i mo, pw_i 1, pw_i 11]) (rest := []) (ls'' := [some (pw_i mo), some (pw_i 1), some (pw_i 11)]) (Nat.le_trans (by decide) hd) E rfl (fun _ => pw_iS rfl rfl rfl) (rfl : pm_ent 202 = some (3, 3, 12, 1, pmc_202)) rfl rfl (cm_202 (pw_dp hd (by decide)) h1I (mo) (by omega) (by omega) (1) (by omega) (by omega) (11) (by omega) (by omega)) ?_
  rintro u3 v2 ⟨rfl, x4, rfl, hx4a, hx4b, hx4r⟩
  refine ⟨_, rfl, ?_⟩
  show pw X d h1 235 12 [some (.ref 141), some (pw_i mo), some (pw_i wt), none, none, none, none, none, none, none, none] [pw_i x4] _
  change (x4 = 1 ∧ 1 ≤ mo ∧ mo ≤ 11) ∨ (x4 = 0 ∧ ¬ (1 ≤ mo ∧ mo ≤ 11)) at hx4r
  rcases (by omega : x4 = 1 ∨ x4 = 0) with hb5 | hb5
  · skip
    refine pw_if E (pc' := 24) rfl (by decide) (by omega) (by omega) ?_ ?_
    · intro hc6
      change x4 = (0 : Int) at hc6
      exfalso; omega
    · intro hc7
      change ¬ (x4 = (0 : Int)) at hc7
      refine pw_ld E (pc' := 16) (st' := [pw_i wt]) rfl (fun _ => rfl) ?_
      refine pw_ld E (pc' := 17) (st' := [pw_i 0, pw_i wt]) rfl (fun _ => rfl) ?_
      refine pw_ld E (pc' := 18) (st' := [pw_i 2, pw_i 0, pw_i wt]) rfl (fun _ => rfl) ?_
      refine pw_call (m' := 202) (As := [pw_i wt, pw_i 0, pw_i 2]) (rest := []) (ls'' := [some (pw_i wt), some (pw_i 0), some (pw_i 2)]) (Nat.le_trans (by decide) hd) E rfl (fun _ => pw_iS rfl rfl rfl) (rfl : pm_ent 202 = some (3, 3, 12, 1, pmc_202)) rfl rfl (cm_202 (pw_dp hd (by decide)) h1I (wt) (by omega) (by omega) (0) (by omega) (by omega) (2) (by omega) (by omega)) ?_
      rintro u9 v8 ⟨rfl, x10, rfl, hx10a, hx10b, hx10r⟩
      refine ⟨_, rfl, ?_⟩
      show pw X d h1 235 21 [some (.ref 141), some (pw_i mo), some (pw_i wt), none, none, none, none, none, none, none, none] [pw_i x10] _
      change (x10 = 1 ∧ 0 ≤ wt ∧ wt ≤ 2) ∨ (x10 = 0 ∧ ¬ (0 ≤ wt ∧ wt ≤ 2)) at hx10r
      rcases (by omega : x10 = 1 ∨ x10 = 0) with hb11 | hb11
      · skip
        refine pw_if E (pc' := 28) rfl (by decide) (by omega) (by omega) ?_ ?_
        · intro hc12
          change x10 ≠ (0 : Int) at hc12
          refine pw_ld E (pc' := 29) (st' := [pw_i 0]) rfl (fun _ => rfl) ?_
          refine pw_istn E (pc' := 30) (ls' := [some (.ref 141), some (pw_i mo), some (pw_i wt), some (pw_i 0), none, none, none, none, none, none, none]) rfl rfl rfl rfl ?_
          refine pw_ld E (pc' := 31) (st' := [.long (Int64.ofInt 0)]) rfl (fun _ => rfl) ?_
          refine pw_lst E (pc' := 33) (ls' := [some (.ref 141), some (pw_i mo), some (pw_i wt), some (pw_i 0), some (.long (Int64.ofInt 0)), none, none, none, none, none, none]) rfl rfl rfl rfl ?_
          refine pw_ld E (pc' := 34) (st' := [.long (Int64.ofInt 1)]) rfl (fun _ => rfl) ?_
          refine pw_lst E (pc' := 36) (ls' := [some (.ref 141), some (pw_i mo), some (pw_i wt), some (pw_i 0), some (.long (Int64.ofInt 0)), none, some (.long (Int64.ofInt 1)), none, none, none, none]) rfl rfl rfl rfl ?_
          refine pw_ld E (pc' := 37) (st' := [pw_i 0]) rfl (fun _ => rfl) ?_
          refine pw_ist E (pc' := 39) (ls' := [some (.ref 141), some (pw_i mo), some (pw_i wt), some (pw_i 0), some (.long (Int64.ofInt 0)), none, some (.long (Int64.ofInt 1)), none, some (pw_i 0), none, none]) rfl rfl rfl rfl ?_
          have L39 : ∀ (n39 : Nat) (k39_3 : Int) (k39_4 : Int64) (k39_6 : Int) (k39_8 : Int) (k39_9 : Option Value) (gh39 : pm_H), pw_I gh39 → pw_E [125] h gh39 → 0 ≤ k39_3 → k39_3 ≤ 11 → 1 ≤ k39_6 → k39_6 ≤ 576 → 0 ≤ k39_8 → k39_8 ≤ 11 → k39_3 + 0 ≤ k39_8 + 0 → (11 - k39_8).toNat = n39 → pw X d gh39 235 39 [some (.ref 141), some (pw_i mo), some (pw_i wt), some (pw_i k39_3), some (.long k39_4), none, some (.long (Int64.ofInt k39_6)), none, some (pw_i k39_8), k39_9, none] [] (fun h' v => pw_I h' ∧ pw_E [125] h h' ∧ ∃ w : Int64, v = .inl (some (.long w))) := by
            intro n39
            induction n39 using Nat.strongRecOn with
            | ind n39 ih39 =>
              intro k39_3 k39_4 k39_6 k39_8 k39_9 gh39 I39 E39 k39_3a k39_3b k39_6a k39_6b k39_8a k39_8b hx39_0 hm39
              refine pw_ld E (pc' := 41) (st' := [pw_i k39_8]) rfl (fun _ => rfl) ?_
              refine pw_ld E (pc' := 42) (st' := [pw_i mo, pw_i k39_8]) rfl (fun _ => rfl) ?_
              refine pw_if2 E (pc' := 117) rfl (by decide) (by omega) (by omega) (by omega) (by omega) ?_ ?_
              · intro hc13
                change mo ≤ k39_8 at hc13
                refine pw_ld E (pc' := 118) (st' := [.ref 141]) rfl (fun _ => rfl) ?_
                refine pw_ld E (pc' := 120) (st' := [.long k39_4, .ref 141]) rfl (fun _ => rfl) ?_
                refine pw_putL I39 E (c := 125) (k := 24) (pc' := 123) rfl rfl rfl rfl rfl rfl ?_
                intro h14I h14E
                generalize h14w : pw_w gh39 125 24 (.long k39_4) = h14 at h14I h14E ⊢
                have h14F := E39.tr (h14E.wk (W' := [125]) (by first | rfl | simp))
                refine pw_ld E (pc' := 124) (st' := [.ref 141]) rfl (fun _ => rfl) ?_
                refine pw_ld E (pc' := 126) (st' := [.long (Int64.ofInt k39_6), .ref 141]) rfl (fun _ => rfl) ?_
                refine pw_putM h14I E (c := 125) (k := 25) (pc' := 129) rfl rfl rfl rfl (by omega) (by omega) (by omega) (by omega) rfl rfl ?_
                intro h15I h15E
                generalize h15w : pw_w h14 125 25 (.long (Int64.ofInt k39_6)) = h15 at h15I h15E ⊢
                have h15F := h14F.tr (h15E.wk (W' := [125]) (by first | rfl | simp))
                refine pw_ld E (pc' := 130) (st' := [pw_i wt]) rfl (fun _ => rfl) ?_
                refine pw_if E (pc' := 138) rfl (by decide) (by omega) (by omega) ?_ ?_
                · intro hc16
                  change wt ≠ (0 : Int) at hc16
                  refine pw_ld E (pc' := 139) (st' := [pw_i k39_3]) rfl (fun _ => rfl) ?_
                  refine pw_if E (pc' := 148) rfl (by decide) (by omega) (by omega) ?_ ?_
                  · intro hc17
                    change k39_3 ≠ (0 : Int) at hc17
                    refine pw_ld E (pc' := 149) (st' := [.ref 141]) rfl (fun _ => rfl) ?_
                    refine pw_ld E (pc' := 150) (st' := [pw_i wt, .ref 141]) rfl (fun _ => rfl) ?_
                    refine pw_ld E (pc' := 151) (st' := [pw_i 1, pw_i wt, .ref 141]) rfl (fun _ => rfl) ?_
                    refine pw_sub E (pc' := 152) rfl rfl ?_
                    have he18 : pw_gm h15 125 25 = k39_6 := by rw [← h15w]; exact pw_gm_eq (c := 125) (k := 25) h14I rfl rfl (by omega) (by omega)
                    obtain ⟨f19l, f19h, -⟩ := pw_obj (c := 125) h15I rfl
                    refine pw_call (m' := 222) (As := [.ref 141, pw_i (wt - 1)]) (rest := []) (ls'' := [some (.ref 141), some (pw_i (wt - 1)), none, none]) (Nat.le_trans (by decide) hd) E rfl (fun _ => pw_iV rfl rfl rfl rfl (pw_cellI f19h rfl)) (rfl : pm_ent 222 = some (2, 4, 12, 2, pmc_222)) rfl rfl (cm_222 (pw_dp hd (by decide)) h15I (wt - 1) (by omega) (by omega) (by omega)) ?_
                    rintro u21 v20 ⟨rfl, w22, rfl⟩
                    refine ⟨_, rfl, ?_⟩
                    show pw X d h15 235 155 [some (.ref 141), some (pw_i mo), some (pw_i wt), some (pw_i k39_3), some (.long k39_4), none, some (.long (Int64.ofInt k39_6)), none, some (pw_i k39_8), k39_9, none] [.long w22] _
                    refine pw_lret E rfl ?_
                    exact ⟨h15I, h15F, ⟨_, rfl⟩⟩
                  · intro hc23
                    change ¬ (k39_3 ≠ (0 : Int)) at hc23
                    refine pw_ld E (pc' := 145) (st' := [.long (Int64.ofInt ((-1)))]) rfl (fun _ => rfl) ?_
                    refine pw_goto E (pc' := 155) rfl (by decide) ?_
                    refine pw_lret E rfl ?_
                    exact ⟨h15I, h15F, ⟨_, rfl⟩⟩
                · intro hc24
                  change ¬ (wt ≠ (0 : Int)) at hc24
                  refine pw_ld E (pc' := 134) (st' := [pw_i k39_3]) rfl (fun _ => rfl) ?_
                  refine pw_i2l E (pc' := 135) rfl rfl (by omega) (by omega) ?_
                  refine pw_goto E (pc' := 155) rfl (by decide) ?_
                  refine pw_lret E rfl ?_
                  exact ⟨h15I, h15F, ⟨_, rfl⟩⟩
              · intro hc25
                change ¬ (mo ≤ k39_8) at hc25
                refine pw_ld E (pc' := 46) (st' := [.ref 141]) rfl (fun _ => rfl) ?_
                refine pw_ld E (pc' := 48) (st' := [pw_i k39_8, .ref 141]) rfl (fun _ => rfl) ?_
                refine pw_ld E (pc' := 50) (st' := [pw_i k39_8, pw_i k39_8, .ref 141]) rfl (fun _ => rfl) ?_
                refine pw_ld E (pc' := 51) (st' := [pw_i 1, pw_i k39_8, pw_i k39_8, .ref 141]) rfl (fun _ => rfl) ?_
                refine pw_add E (pc' := 52) rfl rfl ?_
                refine pw_ld E (pc' := 53) (st' := [pw_i ((-1)), pw_i (k39_8 + 1), pw_i k39_8, .ref 141]) rfl (fun _ => rfl) ?_
                obtain ⟨f26l, f26h, -⟩ := pw_obj (c := 125) I39 rfl
                refine pw_call (m' := 218) (As := [.ref 141, pw_i k39_8, pw_i (k39_8 + 1), pw_i ((-1))]) (rest := []) (ls'' := [some (.ref 141), some (pw_i k39_8), some (pw_i (k39_8 + 1)), some (pw_i ((-1))), none]) (Nat.le_trans (by decide) hd) E rfl (fun _ => pw_iV rfl rfl rfl rfl (pw_cellI f26h rfl)) (rfl : pm_ent 218 = some (4, 5, 12, 1, pmc_218)) rfl rfl (cm_218 (pw_dp hd (by decide)) I39 (k39_8) (by omega) (by omega) (k39_8 + 1) (by omega) (by omega) ((-1)) (by omega) (by omega)) ?_
                rintro h27 v28 ⟨h27I, h27E, x29, rfl, hx29a, hx29b, hx29r⟩
                refine ⟨_, rfl, ?_⟩
                have h27F := E39.tr (h27E.wk (W' := [125]) (by first | rfl | simp))
                show pw X d h27 235 56 [some (.ref 141), some (pw_i mo), some (pw_i wt), some (pw_i k39_3), some (.long k39_4), none, some (.long (Int64.ofInt k39_6)), none, some (pw_i k39_8), k39_9, none] [pw_i x29] _
                change (x29 = 1 ∧ 1 ≤ pw_gm h27 125 25 ∧ pw_gm h27 125 25 ≤ 576) ∨ x29 = 0 at hx29r
                rcases (by omega : x29 = 1 ∨ x29 = 0) with hb30 | hb30
                · skip
                  refine pw_if E (pc' := 111) rfl (by decide) (by omega) (by omega) ?_ ?_
                  · intro hc31
                    change x29 = (0 : Int) at hc31
                    exfalso; omega
                  · intro hc32
                    change ¬ (x29 = (0 : Int)) at hc32
                    refine pw_inc E (pc' := 62) (ls' := [some (.ref 141), some (pw_i mo), some (pw_i wt), some (pw_i (k39_3 + 1)), some (.long k39_4), none, some (.long (Int64.ofInt k39_6)), none, some (pw_i k39_8), k39_9, none]) rfl rfl rfl rfl ?_
                    refine pw_ld E (pc' := 63) (st' := [.ref 141]) rfl (fun _ => rfl) ?_
                    refine pw_getL h27I E (c := 125) (k := 24) (pc' := 66) rfl rfl rfl rfl rfl rfl ?_
                    refine pw_ld E (pc' := 67) (st' := [.long (Int64.ofInt 0), .long (pw_gl h27 125 24)]) rfl (fun _ => rfl) ?_
                    refine pw_lcmp E (pc' := 68) rfl rfl (fun c33 hc33 => ?_)
                    refine pw_if E (pc' := 79) rfl (by decide) (by omega) (by omega) ?_ ?_
                    · intro hc34
                      change (0 : Int) ≤ c33 at hc34
                      refine pw_ld E (pc' := 80) (st' := [.ref 141]) rfl (fun _ => rfl) ?_
                      refine pw_getL h27I E (c := 125) (k := 24) (pc' := 83) rfl rfl rfl rfl rfl rfl ?_
                      refine pw_lst E (pc' := 85) (ls' := [some (.ref 141), some (pw_i mo), some (pw_i wt), some (pw_i (k39_3 + 1)), some (.long k39_4), none, some (.long (Int64.ofInt k39_6)), none, some (pw_i k39_8), some (.long (pw_gl h27 125 24)), none]) rfl rfl rfl rfl ?_
                      refine pw_ld E (pc' := 87) (st' := [.long (pw_gl h27 125 24)]) rfl (fun _ => rfl) ?_
                      refine pw_ld E (pc' := 89) (st' := [.long (Int64.ofInt k39_6), .long (pw_gl h27 125 24)]) rfl (fun _ => rfl) ?_
                      refine pw_ld E (pc' := 90) (st' := [.long ((pw_gl h27 125 24) * (Int64.ofInt k39_6))]) rfl (fun _ => rfl) ?_
                      refine pw_ld E (pc' := 92) (st' := [.long k39_4, .long ((pw_gl h27 125 24) * (Int64.ofInt k39_6))]) rfl (fun _ => rfl) ?_
                      refine pw_ld E (pc' := 93) (st' := [.ref 141, .long k39_4, .long ((pw_gl h27 125 24) * (Int64.ofInt k39_6))]) rfl (fun _ => rfl) ?_
                      refine pw_getM h27I E (c := 125) (k := 25) (pc' := 96) rfl rfl rfl rfl rfl rfl (fun hf35a hf35b => ?_)
                      refine pw_ld E (pc' := 97) (st' := [.long (k39_4 * (Int64.ofInt (pw_gm h27 125 25))), .long ((pw_gl h27 125 24) * (Int64.ofInt k39_6))]) rfl (fun _ => rfl) ?_
                      refine pw_lcmp E (pc' := 98) rfl rfl (fun c36 hc36 => ?_)
                      refine pw_if E (pc' := 111) rfl (by decide) (by omega) (by omega) ?_ ?_
                      · intro hc37
                        change c36 ≤ (0 : Int) at hc37
                        refine pw_inc E (pc' := 114) (ls' := [some (.ref 141), some (pw_i mo), some (pw_i wt), some (pw_i (k39_3 + 1)), some (.long k39_4), none, some (.long (Int64.ofInt k39_6)), none, some (pw_i (k39_8 + 1)), some (.long (pw_gl h27 125 24)), none]) rfl rfl rfl rfl ?_
                        refine pw_goto E (pc' := 39) rfl (by decide) ?_
                        exact ih39 _ (by omega) (k39_3 + 1) (k39_4) (k39_6) (k39_8 + 1) (some (.long (pw_gl h27 125 24))) h27 h27I h27F (by omega) (by omega) (by omega) (by omega) (by omega) (by omega) (by omega) rfl
                      · intro hc38
                        change ¬ (c36 ≤ (0 : Int)) at hc38
                        refine pw_ld E (pc' := 103) (st' := [.long (pw_gl h27 125 24)]) rfl (fun _ => rfl) ?_
                        refine pw_lst E (pc' := 105) (ls' := [some (.ref 141), some (pw_i mo), some (pw_i wt), some (pw_i (k39_3 + 1)), some (.long (pw_gl h27 125 24)), none, some (.long (Int64.ofInt k39_6)), none, some (pw_i k39_8), some (.long (pw_gl h27 125 24)), none]) rfl rfl rfl rfl ?_
                        refine pw_ld E (pc' := 106) (st' := [.ref 141]) rfl (fun _ => rfl) ?_
                        refine pw_getM h27I E (c := 125) (k := 25) (pc' := 109) rfl rfl rfl rfl rfl rfl (fun hf39a hf39b => ?_)
                        refine pw_lst E (pc' := 111) (ls' := [some (.ref 141), some (pw_i mo), some (pw_i wt), some (pw_i (k39_3 + 1)), some (.long (pw_gl h27 125 24)), none, some (.long (Int64.ofInt (pw_gm h27 125 25))), none, some (pw_i k39_8), some (.long (pw_gl h27 125 24)), none]) rfl rfl rfl rfl ?_
                        refine pw_inc E (pc' := 114) (ls' := [some (.ref 141), some (pw_i mo), some (pw_i wt), some (pw_i (k39_3 + 1)), some (.long (pw_gl h27 125 24)), none, some (.long (Int64.ofInt (pw_gm h27 125 25))), none, some (pw_i (k39_8 + 1)), some (.long (pw_gl h27 125 24)), none]) rfl rfl rfl rfl ?_
                        refine pw_goto E (pc' := 39) rfl (by decide) ?_
                        exact ih39 _ (by omega) (k39_3 + 1) (pw_gl h27 125 24) (pw_gm h27 125 25) (k39_8 + 1) (some (.long (pw_gl h27 125 24))) h27 h27I h27F (by omega) (by omega) (by omega) (by omega) (by omega) (by omega) (by omega) rfl
                    · intro hc40
                      change ¬ ((0 : Int) ≤ c33) at hc40
                      refine pw_ld E (pc' := 72) (st' := [.ref 141]) rfl (fun _ => rfl) ?_
                      refine pw_getL h27I E (c := 125) (k := 24) (pc' := 75) rfl rfl rfl rfl rfl rfl ?_
                      refine pw_ld E (pc' := 76) (st' := [.long (-(pw_gl h27 125 24))]) rfl (fun _ => rfl) ?_
                      refine pw_goto E (pc' := 83) rfl (by decide) ?_
                      refine pw_lst E (pc' := 85) (ls' := [some (.ref 141), some (pw_i mo), some (pw_i wt), some (pw_i (k39_3 + 1)), some (.long k39_4), none, some (.long (Int64.ofInt k39_6)), none, some (pw_i k39_8), some (.long (-(pw_gl h27 125 24))), none]) rfl rfl rfl rfl ?_
                      refine pw_ld E (pc' := 87) (st' := [.long (-(pw_gl h27 125 24))]) rfl (fun _ => rfl) ?_
                      refine pw_ld E (pc' := 89) (st' := [.long (Int64.ofInt k39_6), .long (-(pw_gl h27 125 24))]) rfl (fun _ => rfl) ?_
                      refine pw_ld E (pc' := 90) (st' := [.long ((-(pw_gl h27 125 24)) * (Int64.ofInt k39_6))]) rfl (fun _ => rfl) ?_
                      refine pw_ld E (pc' := 92) (st' := [.long k39_4, .long ((-(pw_gl h27 125 24)) * (Int64.ofInt k39_6))]) rfl (fun _ => rfl) ?_
                      refine pw_ld E (pc' := 93) (st' := [.ref 141, .long k39_4, .long ((-(pw_gl h27 125 24)) * (Int64.ofInt k39_6))]) rfl (fun _ => rfl) ?_
                      refine pw_getM h27I E (c := 125) (k := 25) (pc' := 96) rfl rfl rfl rfl rfl rfl (fun hf41a hf41b => ?_)
                      refine pw_ld E (pc' := 97) (st' := [.long (k39_4 * (Int64.ofInt (pw_gm h27 125 25))), .long ((-(pw_gl h27 125 24)) * (Int64.ofInt k39_6))]) rfl (fun _ => rfl) ?_
                      refine pw_lcmp E (pc' := 98) rfl rfl (fun c42 hc42 => ?_)
                      refine pw_if E (pc' := 111) rfl (by decide) (by omega) (by omega) ?_ ?_
                      · intro hc43
                        change c42 ≤ (0 : Int) at hc43
                        refine pw_inc E (pc' := 114) (ls' := [some (.ref 141), some (pw_i mo), some (pw_i wt), some (pw_i (k39_3 + 1)), some (.long k39_4), none, some (.long (Int64.ofInt k39_6)), none, some (pw_i (k39_8 + 1)), some (.long (-(pw_gl h27 125 24))), none]) rfl rfl rfl rfl ?_
                        refine pw_goto E (pc' := 39) rfl (by decide) ?_
                        exact ih39 _ (by omega) (k39_3 + 1) (k39_4) (k39_6) (k39_8 + 1) (some (.long (-(pw_gl h27 125 24)))) h27 h27I h27F (by omega) (by omega) (by omega) (by omega) (by omega) (by omega) (by omega) rfl
                      · intro hc44
                        change ¬ (c42 ≤ (0 : Int)) at hc44
                        refine pw_ld E (pc' := 103) (st' := [.long (-(pw_gl h27 125 24))]) rfl (fun _ => rfl) ?_
                        refine pw_lst E (pc' := 105) (ls' := [some (.ref 141), some (pw_i mo), some (pw_i wt), some (pw_i (k39_3 + 1)), some (.long (-(pw_gl h27 125 24))), none, some (.long (Int64.ofInt k39_6)), none, some (pw_i k39_8), some (.long (-(pw_gl h27 125 24))), none]) rfl rfl rfl rfl ?_
                        refine pw_ld E (pc' := 106) (st' := [.ref 141]) rfl (fun _ => rfl) ?_
                        refine pw_getM h27I E (c := 125) (k := 25) (pc' := 109) rfl rfl rfl rfl rfl rfl (fun hf45a hf45b => ?_)
                        refine pw_lst E (pc' := 111) (ls' := [some (.ref 141), some (pw_i mo), some (pw_i wt), some (pw_i (k39_3 + 1)), some (.long (-(pw_gl h27 125 24))), none, some (.long (Int64.ofInt (pw_gm h27 125 25))), none, some (pw_i k39_8), some (.long (-(pw_gl h27 125 24))), none]) rfl rfl rfl rfl ?_
                        refine pw_inc E (pc' := 114) (ls' := [some (.ref 141), some (pw_i mo), some (pw_i wt), some (pw_i (k39_3 + 1)), some (.long (-(pw_gl h27 125 24))), none, some (.long (Int64.ofInt (pw_gm h27 125 25))), none, some (pw_i (k39_8 + 1)), some (.long (-(pw_gl h27 125 24))), none]) rfl rfl rfl rfl ?_
                        refine pw_goto E (pc' := 39) rfl (by decide) ?_
                        exact ih39 _ (by omega) (k39_3 + 1) (-(pw_gl h27 125 24)) (pw_gm h27 125 25) (k39_8 + 1) (some (.long (-(pw_gl h27 125 24)))) h27 h27I h27F (by omega) (by omega) (by omega) (by omega) (by omega) (by omega) (by omega) rfl
                · skip
                  refine pw_if E (pc' := 111) rfl (by decide) (by omega) (by omega) ?_ ?_
                  · intro hc47
                    change x29 = (0 : Int) at hc47
                    refine pw_inc E (pc' := 114) (ls' := [some (.ref 141), some (pw_i mo), some (pw_i wt), some (pw_i k39_3), some (.long k39_4), none, some (.long (Int64.ofInt k39_6)), none, some (pw_i (k39_8 + 1)), k39_9, none]) rfl rfl rfl rfl ?_
                    refine pw_goto E (pc' := 39) rfl (by decide) ?_
                    exact ih39 _ (by omega) (k39_3) (k39_4) (k39_6) (k39_8 + 1) k39_9 h27 h27I h27F (by omega) (by omega) (by omega) (by omega) (by omega) (by omega) (by omega) rfl
                  · intro hc48
                    change ¬ (x29 = (0 : Int)) at hc48
                    exfalso; omega
          exact L39 _ (0) (Int64.ofInt 0) (1) (0) (none) h1 h1I h1F (by omega) (by omega) (by omega) (by omega) (by omega) (by omega) (by omega) rfl
        · intro hc49
          change ¬ (x10 ≠ (0 : Int)) at hc49
          exfalso; omega
      · skip
        refine pw_if E (pc' := 28) rfl (by decide) (by omega) (by omega) ?_ ?_
        · intro hc51
          change x10 ≠ (0 : Int) at hc51
          exfalso; omega
        · intro hc52
          change ¬ (x10 ≠ (0 : Int)) at hc52
          refine pw_ld E (pc' := 27) (st' := [.long (Int64.ofInt ((-1)))]) rfl (fun _ => rfl) ?_
          refine pw_lret E rfl ?_
          exact ⟨h1I, h1F, ⟨_, rfl⟩⟩
  · skip
    refine pw_if E (pc' := 24) rfl (by decide) (by omega) (by omega) ?_ ?_
    · intro hc54
      change x4 = (0 : Int) at hc54
      refine pw_ld E (pc' := 27) (st' := [.long (Int64.ofInt ((-1)))]) rfl (fun _ => rfl) ?_
      refine pw_lret E rfl ?_
      exact ⟨h1I, h1F, ⟨_, rfl⟩⟩
    · intro hc55
      change ¬ (x4 = (0 : Int)) at hc55
      exfalso; omega
set_option maxHeartbeats 4000000 in
theorem cm_275 {X : List (Nat × List Value)} {d : Nat} {h : pm_H} (hd : 1 ≤ d) (I : pw_I h) (z : Int) (hz1 : 0 ≤ z) (hz2 : z ≤ 1) : pw X d h 275 0 [some (.ref 141), some (pw_i z), none] [] (fun h' v => pw_I h' ∧ pw_E [125] h h' ∧ ∃ a : Int, v = .inl (some (pw_i a)) ∧ 0 ≤ a ∧ a ≤ 1 ∧ ((a = 1 ∧ 1 ≤ pw_gm h' 125 25) ∨ a = 0)) := by
  have E : pm_ent 275 = some (2, 3, 12, 1, pmc_275) := rfl
  have E0 : pw_E [125] h h := pw_E.rf _ _
  refine pw_ld E (pc' := 1) (st' := [.ref 141]) rfl (fun _ => rfl) ?_
  refine pw_ld E (pc' := 2) (st' := [.long (Int64.ofInt 0), .ref 141]) rfl (fun _ => rfl) ?_
  refine pw_putL I E (c := 125) (k := 24) (pc' := 5) rfl rfl rfl rfl rfl rfl ?_
  intro h1I h1E
  generalize h1w : pw_w h 125 24 (.long (Int64.ofInt 0)) = h1 at h1I h1E ⊢
  have h1F := E0.tr (h1E.wk (W' := [125]) (by first | rfl | simp))
  refine pw_ld E (pc' := 6) (st' := [.ref 141]) rfl (fun _ => rfl) ?_
  refine pw_ld E (pc' := 7) (st' := [.long (Int64.ofInt 0), .ref 141]) rfl (fun _ => rfl) ?_
  refine pw_putM h1I E (c := 125) (k := 25) (pc' := 10) rfl rfl rfl rfl (by omega) (by omega) (by omega) (by omega) rfl rfl ?_
  intro h2I h2E
  generalize h2w : pw_w h1 125 25 (.long (Int64.ofInt 0)) = h2 at h2I h2E ⊢
  have h2F := h1F.tr (h2E.wk (W' := [125]) (by first | rfl | simp))
  refine pw_ld E (pc' := 11) (st' := [pw_i 0]) rfl (fun _ => rfl) ?_
  refine pw_istn E (pc' := 12) (ls' := [some (.ref 141), some (pw_i z), some (pw_i 0)]) rfl rfl rfl rfl ?_
  have L12 : ∀ (n12 : Nat) (k12_2 : Int) (gh12 : pm_H), pw_I gh12 → pw_E [125] h gh12 → 0 ≤ k12_2 → k12_2 ≤ 20 → pw_gm gh12 125 25 ≤ 999 * k12_2 → 0 ≤ pw_gm gh12 125 25 → (20 - k12_2).toNat = n12 → pw X d gh12 275 12 [some (.ref 141), some (pw_i z), some (pw_i k12_2)] [] (fun h' v => pw_I h' ∧ pw_E [125] h h' ∧ ∃ a : Int, v = .inl (some (pw_i a)) ∧ 0 ≤ a ∧ a ≤ 1 ∧ ((a = 1 ∧ 1 ≤ pw_gm h' 125 25) ∨ a = 0)) := by
    intro n12
    induction n12 using Nat.strongRecOn with
    | ind n12 ih12 =>
      intro k12_2 gh12 I12 E12 k12_2a k12_2b hx12_0 hx12_1 hm12
      refine pw_ld E (pc' := 13) (st' := [pw_i k12_2]) rfl (fun _ => rfl) ?_
      refine pw_ld E (pc' := 14) (st' := [.ref 141, pw_i k12_2]) rfl (fun _ => rfl) ?_
      refine pw_getI2 I12 E (c := 125) (k := 41) (pc' := 17) rfl rfl rfl rfl rfl rfl (fun hf3a hf3b => ?_)
      refine pw_if2 E (pc' := 71) rfl (by decide) (by omega) (by omega) (by omega) (by omega) ?_ ?_
      · intro hc4
        change pw_g gh12 125 41 ≤ k12_2 at hc4
        refine pw_ld E (pc' := 72) (st' := [.ref 141]) rfl (fun _ => rfl) ?_
        refine pw_getM I12 E (c := 125) (k := 25) (pc' := 75) rfl rfl rfl rfl rfl rfl (fun hf5a hf5b => ?_)
        refine pw_ld E (pc' := 76) (st' := [.long (Int64.ofInt 0), .long (Int64.ofInt (pw_gm gh12 125 25))]) rfl (fun _ => rfl) ?_
        refine pw_lcmpC E (pc' := 77) rfl rfl (by omega) (by omega) (by omega) (by omega) (fun c6 hc6 => ?_)
        refine pw_if E (pc' := 84) rfl (by decide) (by omega) (by omega) ?_ ?_
        · intro hc7
          change c6 ≤ (0 : Int) at hc7
          refine pw_ld E (pc' := 85) (st' := [pw_i 0]) rfl (fun _ => rfl) ?_
          refine pw_zret E rfl (by omega) ?_
          exact ⟨I12, E12, ⟨_, rfl, by omega, by omega, by omega⟩⟩
        · intro hc8
          change ¬ (c6 ≤ (0 : Int)) at hc8
          refine pw_ld E (pc' := 81) (st' := [pw_i 1]) rfl (fun _ => rfl) ?_
          refine pw_goto E (pc' := 85) rfl (by decide) ?_
          refine pw_zret E rfl (by omega) ?_
          exact ⟨I12, E12, ⟨_, rfl, by omega, by omega, by omega⟩⟩
      · intro hc9
        change ¬ (pw_g gh12 125 41 ≤ k12_2) at hc9
        refine pw_ld E (pc' := 21) (st' := [pw_i z]) rfl (fun _ => rfl) ?_
        refine pw_if E (pc' := 33) rfl (by decide) (by omega) (by omega) ?_ ?_
        · intro hc10
          change z = (0 : Int) at hc10
          refine pw_ld E (pc' := 34) (st' := [.ref 141]) rfl (fun _ => rfl) ?_
          refine pw_ld E (pc' := 35) (st' := [.ref 141, .ref 141]) rfl (fun _ => rfl) ?_
          refine pw_getL I12 E (c := 125) (k := 24) (pc' := 38) rfl rfl rfl rfl rfl rfl ?_
          refine pw_ld E (pc' := 39) (st' := [.ref 141, .long (pw_gl gh12 125 24), .ref 141]) rfl (fun _ => rfl) ?_
          refine pw_getR (b := 170) I12 E (c := 125) (k := 42) (pc' := 42) rfl rfl rfl rfl rfl rfl rfl ?_
          refine pw_ld E (pc' := 43) (st' := [pw_i k12_2, .ref 170, .long (pw_gl gh12 125 24), .ref 141]) rfl (fun _ => rfl) ?_
          refine pw_ald2 I12 E (c := 154) (pc' := 44) rfl rfl rfl (by decide) rfl (by decide) (by omega) (by omega) rfl (fun hf11a hf11b => ?_)
          refine pw_i2l E (pc' := 45) rfl rfl (by omega) (by omega) ?_
          refine pw_ld E (pc' := 46) (st' := [.long ((pw_gl gh12 125 24) + (Int64.ofInt (pw_g gh12 154 (k12_2.toNat)))), .ref 141]) rfl (fun _ => rfl) ?_
          refine pw_putL I12 E (c := 125) (k := 24) (pc' := 49) rfl rfl rfl rfl rfl rfl ?_
          intro h12I h12E
          generalize h12w : pw_w gh12 125 24 (.long ((pw_gl gh12 125 24) + (Int64.ofInt (pw_g gh12 154 (k12_2.toNat))))) = h12 at h12I h12E ⊢
          have h12F := E12.tr (h12E.wk (W' := [125]) (by first | rfl | simp))
          refine pw_ld E (pc' := 50) (st' := [.ref 141]) rfl (fun _ => rfl) ?_
          refine pw_ld E (pc' := 51) (st' := [.ref 141, .ref 141]) rfl (fun _ => rfl) ?_
          have he14 : pw_gm h12 125 25 = pw_gm gh12 125 25 := by rw [← h12w]; exact pw_gm_ne (by omega)
          refine pw_getM h12I E (c := 125) (k := 25) (pc' := 54) rfl rfl rfl rfl rfl rfl (fun hf13a hf13b => ?_)
          refine pw_ld E (pc' := 55) (st' := [.ref 141, .long (Int64.ofInt (pw_gm h12 125 25)), .ref 141]) rfl (fun _ => rfl) ?_
          refine pw_getR (b := 171) h12I E (c := 125) (k := 43) (pc' := 58) rfl rfl rfl rfl rfl rfl rfl ?_
          refine pw_ld E (pc' := 59) (st' := [pw_i k12_2, .ref 171, .long (Int64.ofInt (pw_gm h12 125 25)), .ref 141]) rfl (fun _ => rfl) ?_
          refine pw_ald2 h12I E (c := 155) (pc' := 60) rfl rfl rfl (by decide) rfl (by decide) (by omega) (by omega) rfl (fun hf15a hf15b => ?_)
          refine pw_i2l E (pc' := 61) rfl rfl (by omega) (by omega) ?_
          refine pw_ladd E (pc' := 62) rfl rfl ?_
          refine pw_putM h12I E (c := 125) (k := 25) (pc' := 65) rfl rfl rfl rfl (by omega) (by omega) (by omega) (by omega) rfl rfl ?_
          intro h16I h16E
          generalize h16w : pw_w h12 125 25 (.long (Int64.ofInt ((pw_gm h12 125 25) + (pw_g h12 155 (k12_2.toNat))))) = h16 at h16I h16E ⊢
          have h16F := h12F.tr (h16E.wk (W' := [125]) (by first | rfl | simp))
          refine pw_inc E (pc' := 68) (ls' := [some (.ref 141), some (pw_i z), some (pw_i (k12_2 + 1))]) rfl rfl rfl rfl ?_
          refine pw_goto E (pc' := 12) rfl (by decide) ?_
          have he17 : pw_gm h16 125 25 = (pw_gm h12 125 25) + (pw_g h12 155 (k12_2.toNat)) := by rw [← h16w]; exact pw_gm_eq (c := 125) (k := 25) h12I rfl rfl (by omega) (by omega)
          exact ih12 _ (by omega) (k12_2 + 1) h16 h16I h16F (by omega) (by omega) (by omega) (by omega) rfl
        · intro hc18
          change ¬ (z = (0 : Int)) at hc18
          refine pw_ld E (pc' := 25) (st' := [.ref 141]) rfl (fun _ => rfl) ?_
          refine pw_getR (b := 172) I12 E (c := 125) (k := 44) (pc' := 28) rfl rfl rfl rfl rfl rfl rfl ?_
          refine pw_ld E (pc' := 29) (st' := [pw_i k12_2, .ref 172]) rfl (fun _ => rfl) ?_
          refine pw_ald2 I12 E (c := 156) (pc' := 30) rfl rfl rfl (by decide) rfl (by decide) (by omega) (by omega) rfl (fun hf19a hf19b => ?_)
          refine pw_if E (pc' := 65) rfl (by decide) (by omega) (by omega) ?_ ?_
          · intro hc20
            change pw_g gh12 156 (k12_2.toNat) = (0 : Int) at hc20
            refine pw_inc E (pc' := 68) (ls' := [some (.ref 141), some (pw_i z), some (pw_i (k12_2 + 1))]) rfl rfl rfl rfl ?_
            refine pw_goto E (pc' := 12) rfl (by decide) ?_
            exact ih12 _ (by omega) (k12_2 + 1) gh12 I12 E12 (by omega) (by omega) (by omega) (by omega) rfl
          · intro hc21
            change ¬ (pw_g gh12 156 (k12_2.toNat) = (0 : Int)) at hc21
            refine pw_ld E (pc' := 34) (st' := [.ref 141]) rfl (fun _ => rfl) ?_
            refine pw_ld E (pc' := 35) (st' := [.ref 141, .ref 141]) rfl (fun _ => rfl) ?_
            refine pw_getL I12 E (c := 125) (k := 24) (pc' := 38) rfl rfl rfl rfl rfl rfl ?_
            refine pw_ld E (pc' := 39) (st' := [.ref 141, .long (pw_gl gh12 125 24), .ref 141]) rfl (fun _ => rfl) ?_
            refine pw_getR (b := 170) I12 E (c := 125) (k := 42) (pc' := 42) rfl rfl rfl rfl rfl rfl rfl ?_
            refine pw_ld E (pc' := 43) (st' := [pw_i k12_2, .ref 170, .long (pw_gl gh12 125 24), .ref 141]) rfl (fun _ => rfl) ?_
            refine pw_ald2 I12 E (c := 154) (pc' := 44) rfl rfl rfl (by decide) rfl (by decide) (by omega) (by omega) rfl (fun hf22a hf22b => ?_)
            refine pw_i2l E (pc' := 45) rfl rfl (by omega) (by omega) ?_
            refine pw_ld E (pc' := 46) (st' := [.long ((pw_gl gh12 125 24) + (Int64.ofInt (pw_g gh12 154 (k12_2.toNat)))), .ref 141]) rfl (fun _ => rfl) ?_
            refine pw_putL I12 E (c := 125) (k := 24) (pc' := 49) rfl rfl rfl rfl rfl rfl ?_
            intro h23I h23E
            generalize h23w : pw_w gh12 125 24 (.long ((pw_gl gh12 125 24) + (Int64.ofInt (pw_g gh12 154 (k12_2.toNat))))) = h23 at h23I h23E ⊢
            have h23F := E12.tr (h23E.wk (W' := [125]) (by first | rfl | simp))
            refine pw_ld E (pc' := 50) (st' := [.ref 141]) rfl (fun _ => rfl) ?_
            refine pw_ld E (pc' := 51) (st' := [.ref 141, .ref 141]) rfl (fun _ => rfl) ?_
            have he25 : pw_gm h23 125 25 = pw_gm gh12 125 25 := by rw [← h23w]; exact pw_gm_ne (by omega)
            refine pw_getM h23I E (c := 125) (k := 25) (pc' := 54) rfl rfl rfl rfl rfl rfl (fun hf24a hf24b => ?_)
            refine pw_ld E (pc' := 55) (st' := [.ref 141, .long (Int64.ofInt (pw_gm h23 125 25)), .ref 141]) rfl (fun _ => rfl) ?_
            refine pw_getR (b := 171) h23I E (c := 125) (k := 43) (pc' := 58) rfl rfl rfl rfl rfl rfl rfl ?_
            refine pw_ld E (pc' := 59) (st' := [pw_i k12_2, .ref 171, .long (Int64.ofInt (pw_gm h23 125 25)), .ref 141]) rfl (fun _ => rfl) ?_
            refine pw_ald2 h23I E (c := 155) (pc' := 60) rfl rfl rfl (by decide) rfl (by decide) (by omega) (by omega) rfl (fun hf26a hf26b => ?_)
            refine pw_i2l E (pc' := 61) rfl rfl (by omega) (by omega) ?_
            refine pw_ladd E (pc' := 62) rfl rfl ?_
            refine pw_putM h23I E (c := 125) (k := 25) (pc' := 65) rfl rfl rfl rfl (by omega) (by omega) (by omega) (by omega) rfl rfl ?_
            intro h27I h27E
            generalize h27w : pw_w h23 125 25 (.long (Int64.ofInt ((pw_gm h23 125 25) + (pw_g h23 155 (k12_2.toNat))))) = h27 at h27I h27E ⊢
            have h27F := h23F.tr (h27E.wk (W' := [125]) (by first | rfl | simp))
            refine pw_inc E (pc' := 68) (ls' := [some (.ref 141), some (pw_i z), some (pw_i (k12_2 + 1))]) rfl rfl rfl rfl ?_
            refine pw_goto E (pc' := 12) rfl (by decide) ?_
            have he28 : pw_gm h27 125 25 = (pw_gm h23 125 25) + (pw_g h23 155 (k12_2.toNat)) := by rw [← h27w]; exact pw_gm_eq (c := 125) (k := 25) h23I rfl rfl (by omega) (by omega)
            exact ih12 _ (by omega) (k12_2 + 1) h27 h27I h27F (by omega) (by omega) (by omega) (by omega) rfl
  have he29 : pw_gm h2 125 25 = 0 := by rw [← h2w]; exact pw_gm_eq (c := 125) (k := 25) h1I rfl rfl (by omega) (by omega)
  exact L12 _ (0) h2 h2I h2F (by omega) (by omega) (by omega) (by omega) rfl
set_option maxHeartbeats 4000000 in
theorem cm_274 {X : List (Nat × List Value)} {d : Nat} {h : pm_H} (hd : 3 ≤ d) (I : pw_I h) (z : Int) (hz1 : 0 ≤ z) (hz2 : z ≤ 1) (wt : Int) (hwt1 : (-2147483648) ≤ wt) (hwt2 : wt ≤ 2147483647) : pw X d h 274 0 [some (.ref 141), some (pw_i z), some (pw_i wt)] [] (fun h' v => pw_I h' ∧ pw_E [125] h h' ∧ ∃ w : Int64, v = .inl (some (.long w))) := by
  have E : pm_ent 274 = some (3, 3, 12, 2, pmc_274) := rfl
  have E0 : pw_E [125] h h := pw_E.rf _ _
  refine pw_ld E (pc' := 1) (st' := [.ref 141]) rfl (fun _ => rfl) ?_
  refine pw_ld E (pc' := 2) (st' := [pw_i wt, .ref 141]) rfl (fun _ => rfl) ?_
  refine pw_call (m' := 217) (As := [pw_i wt]) (rest := [.ref 141]) (ls'' := [some (pw_i wt)]) (Nat.le_trans (by decide) hd) E rfl (fun _ => pw_iS rfl rfl rfl) (rfl : pm_ent 217 = some (1, 1, 12, 1, pmc_217)) rfl rfl (cm_217 (pw_dp hd (by decide)) I (wt) (by omega) (by omega)) ?_
  rintro u2 v1 ⟨rfl, x3, rfl, hx3a, hx3b, hx3r⟩
  refine ⟨_, rfl, ?_⟩
  show pw X d h 274 5 [some (.ref 141), some (pw_i z), some (pw_i wt)] [pw_i x3, .ref 141] _
  change (x3 = 1 ∧ 0 ≤ wt ∧ wt ≤ 1) ∨ (x3 = 0 ∧ ¬ (0 ≤ wt ∧ wt ≤ 1)) at hx3r
  rcases (by omega : x3 = 1 ∨ x3 = 0) with hb4 | hb4
  · skip
    refine pw_if E (pc' := 20) rfl (by decide) (by omega) (by omega) ?_ ?_
    · intro hc5
      change x3 = (0 : Int) at hc5
      exfalso; omega
    · intro hc6
      change ¬ (x3 = (0 : Int)) at hc6
      refine pw_ld E (pc' := 9) (st' := [.ref 141, .ref 141]) rfl (fun _ => rfl) ?_
      refine pw_ld E (pc' := 10) (st' := [pw_i z, .ref 141, .ref 141]) rfl (fun _ => rfl) ?_
      obtain ⟨f7l, f7h, -⟩ := pw_obj (c := 125) I rfl
      refine pw_call (m' := 275) (As := [.ref 141, pw_i z]) (rest := [.ref 141]) (ls'' := [some (.ref 141), some (pw_i z), none]) (Nat.le_trans (by decide) hd) E rfl (fun _ => pw_iV rfl rfl rfl rfl (pw_cellI f7h rfl)) (rfl : pm_ent 275 = some (2, 3, 12, 1, pmc_275)) rfl rfl (cm_275 (pw_dp hd (by decide)) I (z) (by omega) (by omega)) ?_
      rintro h8 v9 ⟨h8I, h8E, x10, rfl, hx10a, hx10b, hx10r⟩
      refine ⟨_, rfl, ?_⟩
      have h8F := E0.tr (h8E.wk (W' := [125]) (by first | rfl | simp))
      show pw X d h8 274 13 [some (.ref 141), some (pw_i z), some (pw_i wt)] [pw_i x10, .ref 141] _
      change (x10 = 1 ∧ 1 ≤ pw_gm h8 125 25) ∨ x10 = 0 at hx10r
      rcases (by omega : x10 = 1 ∨ x10 = 0) with hb11 | hb11
      · skip
        refine pw_if E (pc' := 20) rfl (by decide) (by omega) (by omega) ?_ ?_
        · intro hc12
          change x10 = (0 : Int) at hc12
          exfalso; omega
        · intro hc13
          change ¬ (x10 = (0 : Int)) at hc13
          refine pw_ld E (pc' := 17) (st' := [pw_i 0, .ref 141]) rfl (fun _ => rfl) ?_
          refine pw_goto E (pc' := 21) rfl (by decide) ?_
          refine pw_putI h8I E (c := 125) (k := 0) (pc' := 24) rfl rfl rfl rfl (by omega) (by omega) (by omega) (by omega) rfl rfl ?_
          intro h14I h14E
          generalize h14w : pw_w h8 125 0 (pw_i 0) = h14 at h14I h14E ⊢
          have h14F := h8F.tr (h14E.wk (W' := [125]) (by first | rfl | simp))
          refine pw_ld E (pc' := 25) (st' := [.ref 141]) rfl (fun _ => rfl) ?_
          have he16 : pw_g h14 125 0 = 0 := by rw [← h14w]; exact pw_g_eq (c := 125) (k := 0) h8I rfl rfl (by omega) (by omega)
          refine pw_getI2 h14I E (c := 125) (k := 0) (pc' := 28) rfl rfl rfl rfl rfl rfl (fun hf15a hf15b => ?_)
          refine pw_if E (pc' := 35) rfl (by decide) (by omega) (by omega) ?_ ?_
          · intro hc17
            change pw_g h14 125 0 ≤ (0 : Int) at hc17
            refine pw_ld E (pc' := 36) (st' := [.ref 141]) rfl (fun _ => rfl) ?_
            refine pw_ld E (pc' := 37) (st' := [pw_i wt, .ref 141]) rfl (fun _ => rfl) ?_
            have he18 : pw_gm h14 125 25 = pw_gm h8 125 25 := by rw [← h14w]; exact pw_gm_ne (by omega)
            obtain ⟨f19l, f19h, -⟩ := pw_obj (c := 125) h14I rfl
            refine pw_call (m' := 222) (As := [.ref 141, pw_i wt]) (rest := []) (ls'' := [some (.ref 141), some (pw_i wt), none, none]) (Nat.le_trans (by decide) hd) E rfl (fun _ => pw_iV rfl rfl rfl rfl (pw_cellI f19h rfl)) (rfl : pm_ent 222 = some (2, 4, 12, 2, pmc_222)) rfl rfl (cm_222 (pw_dp hd (by decide)) h14I (wt) (by omega) (by omega) (by omega)) ?_
            rintro u21 v20 ⟨rfl, w22, rfl⟩
            refine ⟨_, rfl, ?_⟩
            show pw X d h14 274 40 [some (.ref 141), some (pw_i z), some (pw_i wt)] [.long w22] _
            refine pw_lret E rfl ?_
            exact ⟨h14I, h14F, ⟨_, rfl⟩⟩
          · intro hc23
            change ¬ (pw_g h14 125 0 ≤ (0 : Int)) at hc23
            exfalso; omega
      · skip
        refine pw_if E (pc' := 20) rfl (by decide) (by omega) (by omega) ?_ ?_
        · intro hc25
          change x10 = (0 : Int) at hc25
          refine pw_ld E (pc' := 21) (st' := [pw_i 1, .ref 141]) rfl (fun _ => rfl) ?_
          refine pw_putI h8I E (c := 125) (k := 0) (pc' := 24) rfl rfl rfl rfl (by omega) (by omega) (by omega) (by omega) rfl rfl ?_
          intro h26I h26E
          generalize h26w : pw_w h8 125 0 (pw_i 1) = h26 at h26I h26E ⊢
          have h26F := h8F.tr (h26E.wk (W' := [125]) (by first | rfl | simp))
          refine pw_ld E (pc' := 25) (st' := [.ref 141]) rfl (fun _ => rfl) ?_
          have he28 : pw_g h26 125 0 = 1 := by rw [← h26w]; exact pw_g_eq (c := 125) (k := 0) h8I rfl rfl (by omega) (by omega)
          refine pw_getI2 h26I E (c := 125) (k := 0) (pc' := 28) rfl rfl rfl rfl rfl rfl (fun hf27a hf27b => ?_)
          refine pw_if E (pc' := 35) rfl (by decide) (by omega) (by omega) ?_ ?_
          · intro hc29
            change pw_g h26 125 0 ≤ (0 : Int) at hc29
            exfalso; omega
          · intro hc30
            change ¬ (pw_g h26 125 0 ≤ (0 : Int)) at hc30
            refine pw_ld E (pc' := 32) (st' := [.long (Int64.ofInt 0)]) rfl (fun _ => rfl) ?_
            refine pw_goto E (pc' := 40) rfl (by decide) ?_
            refine pw_lret E rfl ?_
            exact ⟨h26I, h26F, ⟨_, rfl⟩⟩
        · intro hc31
          change ¬ (x10 = (0 : Int)) at hc31
          exfalso; omega
  · skip
    refine pw_if E (pc' := 20) rfl (by decide) (by omega) (by omega) ?_ ?_
    · intro hc33
      change x3 = (0 : Int) at hc33
      refine pw_ld E (pc' := 21) (st' := [pw_i 1, .ref 141]) rfl (fun _ => rfl) ?_
      refine pw_putI I E (c := 125) (k := 0) (pc' := 24) rfl rfl rfl rfl (by omega) (by omega) (by omega) (by omega) rfl rfl ?_
      intro h34I h34E
      generalize h34w : pw_w h 125 0 (pw_i 1) = h34 at h34I h34E ⊢
      have h34F := E0.tr (h34E.wk (W' := [125]) (by first | rfl | simp))
      refine pw_ld E (pc' := 25) (st' := [.ref 141]) rfl (fun _ => rfl) ?_
      have he36 : pw_g h34 125 0 = 1 := by rw [← h34w]; exact pw_g_eq (c := 125) (k := 0) I rfl rfl (by omega) (by omega)
      refine pw_getI2 h34I E (c := 125) (k := 0) (pc' := 28) rfl rfl rfl rfl rfl rfl (fun hf35a hf35b => ?_)
      refine pw_if E (pc' := 35) rfl (by decide) (by omega) (by omega) ?_ ?_
      · intro hc37
        change pw_g h34 125 0 ≤ (0 : Int) at hc37
        exfalso; omega
      · intro hc38
        change ¬ (pw_g h34 125 0 ≤ (0 : Int)) at hc38
        refine pw_ld E (pc' := 32) (st' := [.long (Int64.ofInt 0)]) rfl (fun _ => rfl) ?_
        refine pw_goto E (pc' := 40) rfl (by decide) ?_
        refine pw_lret E rfl ?_
        exact ⟨h34I, h34F, ⟨_, rfl⟩⟩
    · intro hc39
      change ¬ (x3 = (0 : Int)) at hc39
      exfalso; omega
set_option maxHeartbeats 4000000 in
theorem cm_276 {X : List (Nat × List Value)} {d : Nat} {h : pm_H} (hd : 2 ≤ d) (I : pw_I h) (n : Int) (hn1 : (-2147483648) ≤ n) (hn2 : n ≤ 2147483647) : pw X d h 276 0 [some (.ref 141), some (pw_i n), none, none] [] (fun h' v => pw_I h' ∧ pw_E [125] h h' ∧ ∃ a : Int, v = .inl (some (pw_i a)) ∧ (-2147483648) ≤ a ∧ a ≤ 2147483647) := by
  have E : pm_ent 276 = some (2, 4, 12, 0, pmc_276) := rfl
  have E0 : pw_E [125] h h := pw_E.rf _ _
  refine pw_ld E (pc' := 1) (st' := [.ref 141]) rfl (fun _ => rfl) ?_
  refine pw_ld E (pc' := 2) (st' := [pw_i 0, .ref 141]) rfl (fun _ => rfl) ?_
  refine pw_putI I E (c := 125) (k := 0) (pc' := 5) rfl rfl rfl rfl (by omega) (by omega) (by omega) (by omega) rfl rfl ?_
  intro h1I h1E
  generalize h1w : pw_w h 125 0 (pw_i 0) = h1 at h1I h1E ⊢
  have h1F := E0.tr (h1E.wk (W' := [125]) (by first | rfl | simp))
  refine pw_ld E (pc' := 6) (st' := [pw_i n]) rfl (fun _ => rfl) ?_
  refine pw_ld E (pc' := 7) (st' := [pw_i 1, pw_i n]) rfl (fun _ => rfl) ?_
  refine pw_sip E (pc' := 10) rfl rfl (by decide) ?_
  refine pw_call (m' := 202) (As := [pw_i n, pw_i 1, pw_i 999]) (rest := []) (ls'' := [some (pw_i n), some (pw_i 1), some (pw_i 999)]) (Nat.le_trans (by decide) hd) E rfl (fun _ => pw_iS rfl rfl rfl) (rfl : pm_ent 202 = some (3, 3, 12, 1, pmc_202)) rfl rfl (cm_202 (pw_dp hd (by decide)) h1I (n) (by omega) (by omega) (1) (by omega) (by omega) (999) (by omega) (by omega)) ?_
  rintro u3 v2 ⟨rfl, x4, rfl, hx4a, hx4b, hx4r⟩
  refine ⟨_, rfl, ?_⟩
  show pw X d h1 276 13 [some (.ref 141), some (pw_i n), none, none] [pw_i x4] _
  change (x4 = 1 ∧ 1 ≤ n ∧ n ≤ 999) ∨ (x4 = 0 ∧ ¬ (1 ≤ n ∧ n ≤ 999)) at hx4r
  rcases (by omega : x4 = 1 ∨ x4 = 0) with hb5 | hb5
  · skip
    refine pw_if E (pc' := 24) rfl (by decide) (by omega) (by omega) ?_ ?_
    · intro hc6
      change x4 = (0 : Int) at hc6
      exfalso; omega
    · intro hc7
      change ¬ (x4 = (0 : Int)) at hc7
      refine pw_ld E (pc' := 17) (st' := [.ref 141]) rfl (fun _ => rfl) ?_
      refine pw_ld E (pc' := 18) (st' := [pw_i 1, .ref 141]) rfl (fun _ => rfl) ?_
      obtain ⟨f8l, f8h, -⟩ := pw_obj (c := 125) h1I rfl
      refine pw_call (m' := 275) (As := [.ref 141, pw_i 1]) (rest := []) (ls'' := [some (.ref 141), some (pw_i 1), none]) (Nat.le_trans (by decide) hd) E rfl (fun _ => pw_iV rfl rfl rfl rfl (pw_cellI f8h rfl)) (rfl : pm_ent 275 = some (2, 3, 12, 1, pmc_275)) rfl rfl (cm_275 (pw_dp hd (by decide)) h1I (1) (by omega) (by omega)) ?_
      rintro h9 v10 ⟨h9I, h9E, x11, rfl, hx11a, hx11b, hx11r⟩
      refine ⟨_, rfl, ?_⟩
      have h9F := h1F.tr (h9E.wk (W' := [125]) (by first | rfl | simp))
      show pw X d h9 276 21 [some (.ref 141), some (pw_i n), none, none] [pw_i x11] _
      change (x11 = 1 ∧ 1 ≤ pw_gm h9 125 25) ∨ x11 = 0 at hx11r
      rcases (by omega : x11 = 1 ∨ x11 = 0) with hb12 | hb12
      · skip
        refine pw_if E (pc' := 26) rfl (by decide) (by omega) (by omega) ?_ ?_
        · intro hc13
          change x11 ≠ (0 : Int) at hc13
          refine pw_ld E (pc' := 27) (st' := [.ref 141]) rfl (fun _ => rfl) ?_
          refine pw_getL h9I E (c := 125) (k := 24) (pc' := 30) rfl rfl rfl rfl rfl rfl ?_
          refine pw_ld E (pc' := 31) (st' := [.long (Int64.ofInt 0), .long (pw_gl h9 125 24)]) rfl (fun _ => rfl) ?_
          refine pw_lcmp E (pc' := 32) rfl rfl (fun c14 hc14 => ?_)
          refine pw_if E (pc' := 43) rfl (by decide) (by omega) (by omega) ?_ ?_
          · intro hc15
            change (0 : Int) ≤ c14 at hc15
            refine pw_ld E (pc' := 44) (st' := [.ref 141]) rfl (fun _ => rfl) ?_
            refine pw_getL h9I E (c := 125) (k := 24) (pc' := 47) rfl rfl rfl rfl rfl rfl ?_
            refine pw_lstn E (pc' := 48) (ls' := [some (.ref 141), some (pw_i n), some (.long (pw_gl h9 125 24)), none]) rfl rfl rfl rfl ?_
            refine pw_ld E (pc' := 49) (st' := [.long (pw_gl h9 125 24)]) rfl (fun _ => rfl) ?_
            refine pw_ld E (pc' := 50) (st' := [pw_i n, .long (pw_gl h9 125 24)]) rfl (fun _ => rfl) ?_
            refine pw_i2l E (pc' := 51) rfl rfl (by omega) (by omega) ?_
            refine pw_ld E (pc' := 52) (st' := [.long ((pw_gl h9 125 24) + (Int64.ofInt n))]) rfl (fun _ => rfl) ?_
            refine pw_ld E (pc' := 53) (st' := [.long (Int64.ofInt 1), .long ((pw_gl h9 125 24) + (Int64.ofInt n))]) rfl (fun _ => rfl) ?_
            refine pw_ld E (pc' := 54) (st' := [.long (((pw_gl h9 125 24) + (Int64.ofInt n)) - (Int64.ofInt 1))]) rfl (fun _ => rfl) ?_
            refine pw_ld E (pc' := 55) (st' := [pw_i n, .long (((pw_gl h9 125 24) + (Int64.ofInt n)) - (Int64.ofInt 1))]) rfl (fun _ => rfl) ?_
            refine pw_i2l E (pc' := 56) rfl rfl (by omega) (by omega) ?_
            refine pw_ldivA E (pc' := 57) rfl rfl rfl (pw_l0 (by omega) (by omega) (by omega)) ?_
            refine pw_l2i E (pc' := 58) rfl rfl ?_
            intro x17 hx17a hx17b
            refine pw_iret E rfl ?_
            exact ⟨h9I, h9F, ⟨_, rfl, by omega, by omega⟩⟩
          · intro hc18
            change ¬ ((0 : Int) ≤ c14) at hc18
            refine pw_ld E (pc' := 36) (st' := [.ref 141]) rfl (fun _ => rfl) ?_
            refine pw_getL h9I E (c := 125) (k := 24) (pc' := 39) rfl rfl rfl rfl rfl rfl ?_
            refine pw_ld E (pc' := 40) (st' := [.long (-(pw_gl h9 125 24))]) rfl (fun _ => rfl) ?_
            refine pw_goto E (pc' := 47) rfl (by decide) ?_
            refine pw_lstn E (pc' := 48) (ls' := [some (.ref 141), some (pw_i n), some (.long (-(pw_gl h9 125 24))), none]) rfl rfl rfl rfl ?_
            refine pw_ld E (pc' := 49) (st' := [.long (-(pw_gl h9 125 24))]) rfl (fun _ => rfl) ?_
            refine pw_ld E (pc' := 50) (st' := [pw_i n, .long (-(pw_gl h9 125 24))]) rfl (fun _ => rfl) ?_
            refine pw_i2l E (pc' := 51) rfl rfl (by omega) (by omega) ?_
            refine pw_ld E (pc' := 52) (st' := [.long ((-(pw_gl h9 125 24)) + (Int64.ofInt n))]) rfl (fun _ => rfl) ?_
            refine pw_ld E (pc' := 53) (st' := [.long (Int64.ofInt 1), .long ((-(pw_gl h9 125 24)) + (Int64.ofInt n))]) rfl (fun _ => rfl) ?_
            refine pw_ld E (pc' := 54) (st' := [.long (((-(pw_gl h9 125 24)) + (Int64.ofInt n)) - (Int64.ofInt 1))]) rfl (fun _ => rfl) ?_
            refine pw_ld E (pc' := 55) (st' := [pw_i n, .long (((-(pw_gl h9 125 24)) + (Int64.ofInt n)) - (Int64.ofInt 1))]) rfl (fun _ => rfl) ?_
            refine pw_i2l E (pc' := 56) rfl rfl (by omega) (by omega) ?_
            refine pw_ldivA E (pc' := 57) rfl rfl rfl (pw_l0 (by omega) (by omega) (by omega)) ?_
            refine pw_l2i E (pc' := 58) rfl rfl ?_
            intro x20 hx20a hx20b
            refine pw_iret E rfl ?_
            exact ⟨h9I, h9F, ⟨_, rfl, by omega, by omega⟩⟩
        · intro hc21
          change ¬ (x11 ≠ (0 : Int)) at hc21
          exfalso; omega
      · skip
        refine pw_if E (pc' := 26) rfl (by decide) (by omega) (by omega) ?_ ?_
        · intro hc23
          change x11 ≠ (0 : Int) at hc23
          exfalso; omega
        · intro hc24
          change ¬ (x11 ≠ (0 : Int)) at hc24
          refine pw_ld E (pc' := 25) (st' := [pw_i ((-1))]) rfl (fun _ => rfl) ?_
          refine pw_iret E rfl ?_
          exact ⟨h9I, h9F, ⟨_, rfl, by omega, by omega⟩⟩
  · skip
    refine pw_if E (pc' := 24) rfl (by decide) (by omega) (by omega) ?_ ?_
    · intro hc26
      change x4 = (0 : Int) at hc26
      refine pw_ld E (pc' := 25) (st' := [pw_i ((-1))]) rfl (fun _ => rfl) ?_
      refine pw_iret E rfl ?_
      exact ⟨h1I, h1F, ⟨_, rfl, by omega, by omega⟩⟩
    · intro hc27
      change ¬ (x4 = (0 : Int)) at hc27
      exfalso; omega
set_option maxHeartbeats 4000000 in
theorem cm_283 {X : List (Nat × List Value)} {d : Nat} {h : pm_H} (hd : 1 ≤ d) (I : pw_I h) (k : Int) (hk1 : 0 ≤ k) (hk2 : k ≤ 23) (wt : Int) (hwt1 : (-2147483648) ≤ wt) (hwt2 : wt ≤ 2147483647) : pw X d h 283 0 [some (.ref 141), some (pw_i k), some (pw_i wt), none, none] [] (fun h' v => h = h' ∧ ∃ a : Int, v = .inl (some (pw_i a)) ∧ (-2147483648) ≤ a ∧ a ≤ 2147483647) := by
  have E : pm_ent 283 = some (3, 5, 12, 0, pmc_283) := rfl
  refine pw_ld E (pc' := 1) (st' := [pw_i 0]) rfl (fun _ => rfl) ?_
  refine pw_istn E (pc' := 2) (ls' := [some (.ref 141), some (pw_i k), some (pw_i wt), some (pw_i 0), none]) rfl rfl rfl rfl ?_
  refine pw_ld E (pc' := 3) (st' := [pw_i 0]) rfl (fun _ => rfl) ?_
  refine pw_ist E (pc' := 5) (ls' := [some (.ref 141), some (pw_i k), some (pw_i wt), some (pw_i 0), some (pw_i 0)]) rfl rfl rfl rfl ?_
  have L5 : ∀ (n5 : Nat) (k5_3 : Int) (k5_4 : Int), (-2147483648) ≤ k5_3 → k5_3 ≤ 2147483647 → 0 ≤ k5_4 → k5_4 ≤ 12 → (12 - k5_4).toNat = n5 → pw X d h 283 5 [some (.ref 141), some (pw_i k), some (pw_i wt), some (pw_i k5_3), some (pw_i k5_4)] [] (fun h' v => h = h' ∧ ∃ a : Int, v = .inl (some (pw_i a)) ∧ (-2147483648) ≤ a ∧ a ≤ 2147483647) := by
    intro n5
    induction n5 using Nat.strongRecOn with
    | ind n5 ih5 =>
      intro k5_3 k5_4 k5_3a k5_3b k5_4a k5_4b hm5
      refine pw_ld E (pc' := 7) (st' := [pw_i k5_4]) rfl (fun _ => rfl) ?_
      refine pw_bip E (pc' := 9) rfl rfl (by decide) ?_
      refine pw_if2 E (pc' := 42) rfl (by decide) (by omega) (by omega) (by decide) (by decide) ?_ ?_
      · intro hc1
        change (12 : Int) ≤ k5_4 at hc1
        refine pw_ld E (pc' := 43) (st' := [pw_i k5_3]) rfl (fun _ => rfl) ?_
        refine pw_iret E rfl ?_
        exact ⟨rfl, ⟨_, rfl, by omega, by omega⟩⟩
      · intro hc2
        change ¬ ((12 : Int) ≤ k5_4) at hc2
        refine pw_ld E (pc' := 13) (st' := [pw_i k5_3]) rfl (fun _ => rfl) ?_
        refine pw_ld E (pc' := 14) (st' := [.ref 141, pw_i k5_3]) rfl (fun _ => rfl) ?_
        refine pw_getR (b := 154) I E (c := 125) (k := 18) (pc' := 17) rfl rfl rfl rfl rfl rfl rfl ?_
        refine pw_bip E (pc' := 19) rfl rfl (by decide) ?_
        refine pw_ld E (pc' := 20) (st' := [pw_i k, pw_i 12, .ref 154, pw_i k5_3]) rfl (fun _ => rfl) ?_
        refine pw_mul E (pc' := 21) rfl rfl ?_
        refine pw_ld E (pc' := 23) (st' := [pw_i k5_4, pw_i (12 * k), .ref 154, pw_i k5_3]) rfl (fun _ => rfl) ?_
        refine pw_add E (pc' := 24) rfl rfl ?_
        refine pw_ald2 I E (c := 138) (pc' := 25) rfl rfl rfl (by decide) rfl (by decide) (by omega) (by omega) rfl (fun hf3a hf3b => ?_)
        refine pw_ld E (pc' := 26) (st' := [pw_i wt, pw_i (pw_g h 138 (((12 * k) + k5_4).toNat)), pw_i k5_3]) rfl (fun _ => rfl) ?_
        refine pw_if2 E (pc' := 33) rfl (by decide) (by omega) (by omega) (by omega) (by omega) ?_ ?_
        · intro hc4
          change pw_g h 138 (((12 * k) + k5_4).toNat) ≠ wt at hc4
          refine pw_ld E (pc' := 34) (st' := [pw_i 0, pw_i k5_3]) rfl (fun _ => rfl) ?_
          refine pw_add E (pc' := 35) rfl rfl ?_
          refine pw_istn E (pc' := 36) (ls' := [some (.ref 141), some (pw_i k), some (pw_i wt), some (pw_i (k5_3 + 0)), some (pw_i k5_4)]) rfl rfl rfl rfl ?_
          refine pw_inc E (pc' := 39) (ls' := [some (.ref 141), some (pw_i k), some (pw_i wt), some (pw_i (k5_3 + 0)), some (pw_i (k5_4 + 1))]) rfl rfl rfl rfl ?_
          refine pw_goto E (pc' := 5) rfl (by decide) ?_
          exact ih5 _ (by omega) (k5_3 + 0) (k5_4 + 1)  (by omega) (by omega) (by omega) (by omega)  rfl
        · intro hc5
          change ¬ (pw_g h 138 (((12 * k) + k5_4).toNat) ≠ wt) at hc5
          refine pw_ld E (pc' := 30) (st' := [pw_i 1, pw_i k5_3]) rfl (fun _ => rfl) ?_
          refine pw_goto E (pc' := 34) rfl (by decide) ?_
          refine pw_add E (pc' := 35) rfl rfl ?_
          refine pw_nm (fun x6 hx6a hx6b => ?_)
          refine pw_istn E (pc' := 36) (ls' := [some (.ref 141), some (pw_i k), some (pw_i wt), some (pw_i x6), some (pw_i k5_4)]) rfl rfl rfl rfl ?_
          refine pw_inc E (pc' := 39) (ls' := [some (.ref 141), some (pw_i k), some (pw_i wt), some (pw_i x6), some (pw_i (k5_4 + 1))]) rfl rfl rfl rfl ?_
          refine pw_goto E (pc' := 5) rfl (by decide) ?_
          exact ih5 _ (by omega) (x6) (k5_4 + 1)  (by omega) (by omega) (by omega) (by omega)  rfl
  exact L5 _ (0) (0)  (by omega) (by omega) (by omega) (by omega)  rfl
set_option maxHeartbeats 4000000 in
theorem cm_289 {X : List (Nat × List Value)} {d : Nat} {h : pm_H} (hd : 1 ≤ d) (I : pw_I h) (k : Int) (hk1 : 0 ≤ k) (hk2 : k ≤ 23) (mo : Int) (hmo1 : 0 ≤ mo) (hmo2 : mo ≤ 11) : pw X d h 289 0 [some (.ref 141), some (pw_i k), some (pw_i mo), none] [] (fun h' v => h = h' ∧ ∃ w : Int64, v = .inl (some (.long w))) := by
  have E : pm_ent 289 = some (3, 4, 12, 2, pmc_289) := rfl
  refine pw_ld E (pc' := 1) (st' := [.ref 141]) rfl (fun _ => rfl) ?_
  refine pw_getR (b := 152) I E (c := 125) (k := 16) (pc' := 4) rfl rfl rfl rfl rfl rfl rfl ?_
  refine pw_bip E (pc' := 6) rfl rfl (by decide) ?_
  refine pw_ld E (pc' := 7) (st' := [.ref 141, pw_i 12, .ref 152]) rfl (fun _ => rfl) ?_
  refine pw_getR (b := 148) I E (c := 125) (k := 11) (pc' := 10) rfl rfl rfl rfl rfl rfl rfl ?_
  refine pw_ld E (pc' := 11) (st' := [pw_i k, .ref 148, pw_i 12, .ref 152]) rfl (fun _ => rfl) ?_
  refine pw_ald2 I E (c := 132) (pc' := 12) rfl rfl rfl (by decide) rfl (by decide) (by omega) (by omega) rfl (fun hf1a hf1b => ?_)
  refine pw_mul E (pc' := 13) rfl rfl ?_
  refine pw_ld E (pc' := 14) (st' := [pw_i mo, pw_i (12 * (pw_g h 132 (k.toNat))), .ref 152]) rfl (fun _ => rfl) ?_
  refine pw_add E (pc' := 15) rfl rfl ?_
  refine pw_ald2 I E (c := 136) (pc' := 16) rfl rfl rfl (by decide) rfl (by decide) (by omega) (by omega) rfl (fun hf2a hf2b => ?_)
  refine pw_istn E (pc' := 17) (ls' := [some (.ref 141), some (pw_i k), some (pw_i mo), some (pw_i (pw_g h 136 (((12 * (pw_g h 132 (k.toNat))) + mo).toNat)))]) rfl rfl rfl rfl ?_
  refine pw_ld E (pc' := 18) (st' := [pw_i (pw_g h 136 (((12 * (pw_g h 132 (k.toNat))) + mo).toNat))]) rfl (fun _ => rfl) ?_
  refine pw_ld E (pc' := 19) (st' := [.ref 141, pw_i (pw_g h 136 (((12 * (pw_g h 132 (k.toNat))) + mo).toNat))]) rfl (fun _ => rfl) ?_
  refine pw_getR (b := 149) I E (c := 125) (k := 12) (pc' := 22) rfl rfl rfl rfl rfl rfl rfl ?_
  refine pw_ld E (pc' := 23) (st' := [pw_i k, .ref 149, pw_i (pw_g h 136 (((12 * (pw_g h 132 (k.toNat))) + mo).toNat))]) rfl (fun _ => rfl) ?_
  refine pw_ald2 I E (c := 133) (pc' := 24) rfl rfl rfl (by decide) rfl (by decide) (by omega) (by omega) rfl (fun hf3a hf3b => ?_)
  refine pw_if2 E (pc' := 32) rfl (by decide) (by omega) (by omega) (by omega) (by omega) ?_ ?_
  · intro hc4
    change pw_g h 136 (((12 * (pw_g h 132 (k.toNat))) + mo).toNat) ≤ pw_g h 133 (k.toNat) at hc4
    refine pw_ld E (pc' := 33) (st' := [.ref 141]) rfl (fun _ => rfl) ?_
    refine pw_getR (b := 149) I E (c := 125) (k := 12) (pc' := 36) rfl rfl rfl rfl rfl rfl rfl ?_
    refine pw_ld E (pc' := 37) (st' := [pw_i k, .ref 149]) rfl (fun _ => rfl) ?_
    refine pw_ald2 I E (c := 133) (pc' := 38) rfl rfl rfl (by decide) rfl (by decide) (by omega) (by omega) rfl (fun hf5a hf5b => ?_)
    refine pw_i2l E (pc' := 39) rfl rfl (by omega) (by omega) ?_
    refine pw_lret E rfl ?_
    exact ⟨rfl, ⟨_, rfl⟩⟩
  · intro hc6
    change ¬ (pw_g h 136 (((12 * (pw_g h 132 (k.toNat))) + mo).toNat) ≤ pw_g h 133 (k.toNat)) at hc6
    refine pw_ld E (pc' := 28) (st' := [pw_i (pw_g h 136 (((12 * (pw_g h 132 (k.toNat))) + mo).toNat))]) rfl (fun _ => rfl) ?_
    refine pw_i2l E (pc' := 29) rfl rfl (by omega) (by omega) ?_
    refine pw_goto E (pc' := 39) rfl (by decide) ?_
    refine pw_lret E rfl ?_
    exact ⟨rfl, ⟨_, rfl⟩⟩
set_option maxHeartbeats 4000000 in
theorem cm_290 {X : List (Nat × List Value)} {d : Nat} {h : pm_H} (hd : 3 ≤ d) (I : pw_I h) (k : Int) (hk1 : 0 ≤ k) (hk2 : k ≤ 23) (mo : Int) (hmo1 : 0 ≤ mo) (hmo2 : mo ≤ 11) : pw X d h 290 0 [some (.ref 141), some (pw_i k), some (pw_i mo)] [] (fun h' v => h = h' ∧ ∃ w : Int64, v = .inl (some (.long w))) := by
  have E : pm_ent 290 = some (3, 3, 12, 2, pmc_290) := rfl
  refine pw_ld E (pc' := 1) (st' := [.ref 141]) rfl (fun _ => rfl) ?_
  refine pw_ld E (pc' := 2) (st' := [pw_i k, .ref 141]) rfl (fun _ => rfl) ?_
  refine pw_ld E (pc' := 3) (st' := [pw_i mo, pw_i k, .ref 141]) rfl (fun _ => rfl) ?_
  obtain ⟨f1l, f1h, -⟩ := pw_obj (c := 125) I rfl
  refine pw_call (m' := 210) (As := [.ref 141, pw_i k, pw_i mo]) (rest := []) (ls'' := [some (.ref 141), some (pw_i k), some (pw_i mo)]) (Nat.le_trans (by decide) hd) E rfl (fun _ => pw_iV rfl rfl rfl rfl (pw_cellI f1h rfl)) (rfl : pm_ent 210 = some (3, 3, 12, 0, pmc_210)) rfl rfl (cm_210 (pw_dp hd (by decide)) I (k) (by omega) (by omega) (mo) (by omega) (by omega)) ?_
  rintro u3 v2 ⟨rfl, x4, rfl, hx4a, hx4b⟩
  refine ⟨_, rfl, ?_⟩
  show pw X d h 290 6 [some (.ref 141), some (pw_i k), some (pw_i mo)] [pw_i x4] _
  refine pw_i2l E (pc' := 7) rfl rfl (by omega) (by omega) ?_
  refine pw_ld E (pc' := 8) (st' := [.ref 141, .long (Int64.ofInt x4)]) rfl (fun _ => rfl) ?_
  refine pw_getR (b := 178) I E (c := 125) (k := 51) (pc' := 11) rfl rfl rfl rfl rfl rfl rfl ?_
  refine pw_bip E (pc' := 13) rfl rfl (by decide) ?_
  refine pw_ld E (pc' := 14) (st' := [pw_i k, pw_i 12, .ref 178, .long (Int64.ofInt x4)]) rfl (fun _ => rfl) ?_
  refine pw_mul E (pc' := 15) rfl rfl ?_
  refine pw_ld E (pc' := 16) (st' := [pw_i mo, pw_i (12 * k), .ref 178, .long (Int64.ofInt x4)]) rfl (fun _ => rfl) ?_
  refine pw_add E (pc' := 17) rfl rfl ?_
  refine pw_ald2 I E (c := 162) (pc' := 18) rfl rfl rfl (by decide) rfl (by decide) (by omega) (by omega) rfl (fun hf5a hf5b => ?_)
  refine pw_i2l E (pc' := 19) rfl rfl (by omega) (by omega) ?_
  refine pw_lmul E (pc' := 20) rfl rfl ?_
  refine pw_ld E (pc' := 21) (st' := [.ref 141, .long (Int64.ofInt (x4 * (pw_g h 162 (((12 * k) + mo).toNat))))]) rfl (fun _ => rfl) ?_
  refine pw_ld E (pc' := 22) (st' := [pw_i k, .ref 141, .long (Int64.ofInt (x4 * (pw_g h 162 (((12 * k) + mo).toNat))))]) rfl (fun _ => rfl) ?_
  refine pw_ld E (pc' := 23) (st' := [pw_i mo, pw_i k, .ref 141, .long (Int64.ofInt (x4 * (pw_g h 162 (((12 * k) + mo).toNat))))]) rfl (fun _ => rfl) ?_
  obtain ⟨f6l, f6h, -⟩ := pw_obj (c := 125) I rfl
  refine pw_call (m' := 289) (As := [.ref 141, pw_i k, pw_i mo]) (rest := [.long (Int64.ofInt (x4 * (pw_g h 162 (((12 * k) + mo).toNat))))]) (ls'' := [some (.ref 141), some (pw_i k), some (pw_i mo), none]) (Nat.le_trans (by decide) hd) E rfl (fun _ => pw_iV rfl rfl rfl rfl (pw_cellI f6h rfl)) (rfl : pm_ent 289 = some (3, 4, 12, 2, pmc_289)) rfl rfl (cm_289 (pw_dp hd (by decide)) I (k) (by omega) (by omega) (mo) (by omega) (by omega)) ?_
  rintro u8 v7 ⟨rfl, w9, rfl⟩
  refine ⟨_, rfl, ?_⟩
  show pw X d h 290 26 [some (.ref 141), some (pw_i k), some (pw_i mo)] [.long w9, .long (Int64.ofInt (x4 * (pw_g h 162 (((12 * k) + mo).toNat))))] _
  refine pw_ld E (pc' := 27) (st' := [.long ((Int64.ofInt (x4 * (pw_g h 162 (((12 * k) + mo).toNat)))) * w9)]) rfl (fun _ => rfl) ?_
  refine pw_lret E rfl ?_
  exact ⟨rfl, ⟨_, rfl⟩⟩
set_option maxHeartbeats 4000000 in
theorem cm_291 {X : List (Nat × List Value)} {d : Nat} {h : pm_H} (hd : 4 ≤ d) (I : pw_I h) (k : Int) (hk1 : 0 ≤ k) (hk2 : k ≤ 23) (mo : Int) (hmo1 : 0 ≤ mo) (hmo2 : mo ≤ 11) : pw X d h 291 0 [some (.ref 141), some (pw_i k), some (pw_i mo)] [] (fun h' v => h = h' ∧ ∃ w : Int64, v = .inl (some (.long w))) := by
  have E : pm_ent 291 = some (3, 3, 12, 2, pmc_291) := rfl
  refine pw_ld E (pc' := 3) (st' := [.long (Int64.ofInt 10)]) rfl (fun _ => rfl) ?_
  refine pw_ld E (pc' := 4) (st' := [.ref 141, .long (Int64.ofInt 10)]) rfl (fun _ => rfl) ?_
  refine pw_getR (b := 179) I E (c := 125) (k := 52) (pc' := 7) rfl rfl rfl rfl rfl rfl rfl ?_
  refine pw_bip E (pc' := 9) rfl rfl (by decide) ?_
  refine pw_ld E (pc' := 10) (st' := [pw_i k, pw_i 12, .ref 179, .long (Int64.ofInt 10)]) rfl (fun _ => rfl) ?_
  refine pw_mul E (pc' := 11) rfl rfl ?_
  refine pw_ld E (pc' := 12) (st' := [pw_i mo, pw_i (12 * k), .ref 179, .long (Int64.ofInt 10)]) rfl (fun _ => rfl) ?_
  refine pw_add E (pc' := 13) rfl rfl ?_
  refine pw_ald2 I E (c := 163) (pc' := 14) rfl rfl rfl (by decide) rfl (by decide) (by omega) (by omega) rfl (fun hf1a hf1b => ?_)
  refine pw_i2l E (pc' := 15) rfl rfl (by omega) (by omega) ?_
  refine pw_lmul E (pc' := 16) rfl rfl ?_
  refine pw_ld E (pc' := 17) (st' := [.ref 141, .long (Int64.ofInt (10 * (pw_g h 163 (((12 * k) + mo).toNat))))]) rfl (fun _ => rfl) ?_
  refine pw_ld E (pc' := 18) (st' := [pw_i k, .ref 141, .long (Int64.ofInt (10 * (pw_g h 163 (((12 * k) + mo).toNat))))]) rfl (fun _ => rfl) ?_
  refine pw_ld E (pc' := 19) (st' := [pw_i mo, pw_i k, .ref 141, .long (Int64.ofInt (10 * (pw_g h 163 (((12 * k) + mo).toNat))))]) rfl (fun _ => rfl) ?_
  obtain ⟨f2l, f2h, -⟩ := pw_obj (c := 125) I rfl
  refine pw_call (m' := 290) (As := [.ref 141, pw_i k, pw_i mo]) (rest := [.long (Int64.ofInt (10 * (pw_g h 163 (((12 * k) + mo).toNat))))]) (ls'' := [some (.ref 141), some (pw_i k), some (pw_i mo)]) (Nat.le_trans (by decide) hd) E rfl (fun _ => pw_iV rfl rfl rfl rfl (pw_cellI f2h rfl)) (rfl : pm_ent 290 = some (3, 3, 12, 2, pmc_290)) rfl rfl (cm_290 (pw_dp hd (by decide)) I (k) (by omega) (by omega) (mo) (by omega) (by omega)) ?_
  rintro u4 v3 ⟨rfl, w5, rfl⟩
  refine ⟨_, rfl, ?_⟩
  show pw X d h 291 22 [some (.ref 141), some (pw_i k), some (pw_i mo)] [.long w5, .long (Int64.ofInt (10 * (pw_g h 163 (((12 * k) + mo).toNat))))] _
  refine pw_ld E (pc' := 23) (st' := [.long ((Int64.ofInt (10 * (pw_g h 163 (((12 * k) + mo).toNat)))) - w5)]) rfl (fun _ => rfl) ?_
  refine pw_lret E rfl ?_
  exact ⟨rfl, ⟨_, rfl⟩⟩
set_option maxHeartbeats 4000000 in
theorem cm_288 {X : List (Nat × List Value)} {d : Nat} {h : pm_H} (hd : 5 ≤ d) (I : pw_I h) (k : Int) (hk1 : (-2147483648) ≤ k) (hk2 : k ≤ 2147483647) (mo : Int) (hmo1 : (-2147483648) ≤ mo) (hmo2 : mo ≤ 2147483647) (wt : Int) (hwt1 : (-2147483648) ≤ wt) (hwt2 : wt ≤ 2147483647) : pw X d h 288 0 [some (.ref 141), some (pw_i k), some (pw_i mo), some (pw_i wt), none] [] (fun h' v => pw_I h' ∧ pw_E [125] h h' ∧ ∃ w : Int64, v = .inl (some (.long w))) := by
  have E : pm_ent 288 = some (4, 5, 12, 2, pmc_288) := rfl
  have E0 : pw_E [125] h h := pw_E.rf _ _
  refine pw_ld E (pc' := 1) (st' := [.ref 141]) rfl (fun _ => rfl) ?_
  refine pw_ld E (pc' := 2) (st' := [pw_i k, .ref 141]) rfl (fun _ => rfl) ?_
  obtain ⟨f1l, f1h, -⟩ := pw_obj (c := 125) I rfl
  refine pw_call (m' := 204) (As := [.ref 141, pw_i k]) (rest := []) (ls'' := [some (.ref 141), some (pw_i k)]) (Nat.le_trans (by decide) hd) E rfl (fun _ => pw_iV rfl rfl rfl rfl (pw_cellI f1h rfl)) (rfl : pm_ent 204 = some (2, 2, 12, 1, pmc_204)) rfl rfl (cm_204 (pw_dp hd (by decide)) I (k) (by omega) (by omega)) ?_
  rintro u3 v2 ⟨rfl, x4, rfl, hx4a, hx4b, hx4r⟩
  refine ⟨_, rfl, ?_⟩
  show pw X d h 288 5 [some (.ref 141), some (pw_i k), some (pw_i mo), some (pw_i wt), none] [pw_i x4] _
  change (x4 = 1 ∧ 0 ≤ k ∧ k ≤ 23) ∨ x4 = 0 at hx4r
  rcases (by omega : x4 = 1 ∨ x4 = 0) with hb5 | hb5
  · skip
    refine pw_if E (pc' := 28) rfl (by decide) (by omega) (by omega) ?_ ?_
    · intro hc6
      change x4 = (0 : Int) at hc6
      exfalso; omega
    · intro hc7
      change ¬ (x4 = (0 : Int)) at hc7
      refine pw_ld E (pc' := 9) (st' := [pw_i mo]) rfl (fun _ => rfl) ?_
      refine pw_call (m' := 205) (As := [pw_i mo]) (rest := []) (ls'' := [some (pw_i mo)]) (Nat.le_trans (by decide) hd) E rfl (fun _ => pw_iS rfl rfl rfl) (rfl : pm_ent 205 = some (1, 1, 12, 1, pmc_205)) rfl rfl (cm_205 (pw_dp hd (by decide)) I (mo) (by omega) (by omega)) ?_
      rintro u9 v8 ⟨rfl, x10, rfl, hx10a, hx10b, hx10r⟩
      refine ⟨_, rfl, ?_⟩
      show pw X d h 288 12 [some (.ref 141), some (pw_i k), some (pw_i mo), some (pw_i wt), none] [pw_i x10] _
      change (x10 = 1 ∧ 0 ≤ mo ∧ mo ≤ 11) ∨ (x10 = 0 ∧ ¬ (0 ≤ mo ∧ mo ≤ 11)) at hx10r
      rcases (by omega : x10 = 1 ∨ x10 = 0) with hb11 | hb11
      · skip
        refine pw_if E (pc' := 28) rfl (by decide) (by omega) (by omega) ?_ ?_
        · intro hc12
          change x10 = (0 : Int) at hc12
          exfalso; omega
        · intro hc13
          change ¬ (x10 = (0 : Int)) at hc13
          refine pw_ld E (pc' := 16) (st' := [pw_i wt]) rfl (fun _ => rfl) ?_
          refine pw_ld E (pc' := 17) (st' := [pw_i 0, pw_i wt]) rfl (fun _ => rfl) ?_
          refine pw_ld E (pc' := 18) (st' := [pw_i 2, pw_i 0, pw_i wt]) rfl (fun _ => rfl) ?_
          refine pw_call (m' := 202) (As := [pw_i wt, pw_i 0, pw_i 2]) (rest := []) (ls'' := [some (pw_i wt), some (pw_i 0), some (pw_i 2)]) (Nat.le_trans (by decide) hd) E rfl (fun _ => pw_iS rfl rfl rfl) (rfl : pm_ent 202 = some (3, 3, 12, 1, pmc_202)) rfl rfl (cm_202 (pw_dp hd (by decide)) I (wt) (by omega) (by omega) (0) (by omega) (by omega) (2) (by omega) (by omega)) ?_
          rintro u15 v14 ⟨rfl, x16, rfl, hx16a, hx16b, hx16r⟩
          refine ⟨_, rfl, ?_⟩
          show pw X d h 288 21 [some (.ref 141), some (pw_i k), some (pw_i mo), some (pw_i wt), none] [pw_i x16] _
          change (x16 = 1 ∧ 0 ≤ wt ∧ wt ≤ 2) ∨ (x16 = 0 ∧ ¬ (0 ≤ wt ∧ wt ≤ 2)) at hx16r
          rcases (by omega : x16 = 1 ∨ x16 = 0) with hb17 | hb17
          · skip
            refine pw_if E (pc' := 28) rfl (by decide) (by omega) (by omega) ?_ ?_
            · intro hc18
              change x16 = (0 : Int) at hc18
              exfalso; omega
            · intro hc19
              change ¬ (x16 = (0 : Int)) at hc19
              refine pw_ld E (pc' := 25) (st' := [pw_i 1]) rfl (fun _ => rfl) ?_
              refine pw_goto E (pc' := 29) rfl (by decide) ?_
              refine pw_ist E (pc' := 31) (ls' := [some (.ref 141), some (pw_i k), some (pw_i mo), some (pw_i wt), some (pw_i 1)]) rfl rfl rfl rfl ?_
              refine pw_ld E (pc' := 32) (st' := [.ref 141]) rfl (fun _ => rfl) ?_
              refine pw_ld E (pc' := 34) (st' := [pw_i 1, .ref 141]) rfl (fun _ => rfl) ?_
              refine pw_if E (pc' := 59) rfl (by decide) (by decide) (by decide) ?_ ?_
              · intro hc20
                change (1 : Int) = (0 : Int) at hc20
                exfalso; omega
              · intro hc21
                change ¬ ((1 : Int) = (0 : Int)) at hc21
                refine pw_ld E (pc' := 38) (st' := [pw_i wt, .ref 141]) rfl (fun _ => rfl) ?_
                refine pw_if E (pc' := 55) rfl (by decide) (by omega) (by omega) ?_ ?_
                · intro hc22
                  change wt = (0 : Int) at hc22
                  refine pw_ld E (pc' := 56) (st' := [pw_i 0, .ref 141]) rfl (fun _ => rfl) ?_
                  refine pw_goto E (pc' := 60) rfl (by decide) ?_
                  refine pw_putI I E (c := 125) (k := 0) (pc' := 63) rfl rfl rfl rfl (by omega) (by omega) (by omega) (by omega) rfl rfl ?_
                  intro h23I h23E
                  generalize h23w : pw_w h 125 0 (pw_i 0) = h23 at h23I h23E ⊢
                  have h23F := E0.tr (h23E.wk (W' := [125]) (by first | rfl | simp))
                  refine pw_ld E (pc' := 64) (st' := [.ref 141]) rfl (fun _ => rfl) ?_
                  have he25 : pw_g h23 125 0 = 0 := by rw [← h23w]; exact pw_g_eq (c := 125) (k := 0) I rfl rfl (by omega) (by omega)
                  refine pw_getI2 h23I E (c := 125) (k := 0) (pc' := 67) rfl rfl rfl rfl rfl rfl (fun hf24a hf24b => ?_)
                  refine pw_if E (pc' := 72) rfl (by decide) (by omega) (by omega) ?_ ?_
                  · intro hc26
                    change pw_g h23 125 0 ≤ (0 : Int) at hc26
                    refine pw_ld E (pc' := 73) (st' := [pw_i wt]) rfl (fun _ => rfl) ?_
                    refine pw_if E (pc' := 85) rfl (by decide) (by omega) (by omega) ?_ ?_
                    · intro hc27
                      change wt ≠ (0 : Int) at hc27
                      exfalso; omega
                    · intro hc28
                      change ¬ (wt ≠ (0 : Int)) at hc28
                      refine pw_ld E (pc' := 77) (st' := [.ref 141]) rfl (fun _ => rfl) ?_
                      refine pw_ld E (pc' := 78) (st' := [pw_i k, .ref 141]) rfl (fun _ => rfl) ?_
                      refine pw_ld E (pc' := 79) (st' := [pw_i mo, pw_i k, .ref 141]) rfl (fun _ => rfl) ?_
                      obtain ⟨f29l, f29h, -⟩ := pw_obj (c := 125) h23I rfl
                      refine pw_call (m' := 289) (As := [.ref 141, pw_i k, pw_i mo]) (rest := []) (ls'' := [some (.ref 141), some (pw_i k), some (pw_i mo), none]) (Nat.le_trans (by decide) hd) E rfl (fun _ => pw_iV rfl rfl rfl rfl (pw_cellI f29h rfl)) (rfl : pm_ent 289 = some (3, 4, 12, 2, pmc_289)) rfl rfl (cm_289 (pw_dp hd (by decide)) h23I (k) (by omega) (by omega) (mo) (by omega) (by omega)) ?_
                      rintro u31 v30 ⟨rfl, w32, rfl⟩
                      refine ⟨_, rfl, ?_⟩
                      show pw X d h23 288 82 [some (.ref 141), some (pw_i k), some (pw_i mo), some (pw_i wt), some (pw_i 1)] [.long w32] _
                      refine pw_goto E (pc' := 105) rfl (by decide) ?_
                      refine pw_lret E rfl ?_
                      exact ⟨h23I, h23F, ⟨_, rfl⟩⟩
                  · intro hc33
                    change ¬ (pw_g h23 125 0 ≤ (0 : Int)) at hc33
                    exfalso; omega
                · intro hc34
                  change ¬ (wt = (0 : Int)) at hc34
                  refine pw_ld E (pc' := 42) (st' := [.ref 141, .ref 141]) rfl (fun _ => rfl) ?_
                  refine pw_getR (b := 154) I E (c := 125) (k := 18) (pc' := 45) rfl rfl rfl rfl rfl rfl rfl ?_
                  refine pw_bip E (pc' := 47) rfl rfl (by decide) ?_
                  refine pw_ld E (pc' := 48) (st' := [pw_i k, pw_i 12, .ref 154, .ref 141]) rfl (fun _ => rfl) ?_
                  refine pw_mul E (pc' := 49) rfl rfl ?_
                  refine pw_ld E (pc' := 50) (st' := [pw_i mo, pw_i (12 * k), .ref 154, .ref 141]) rfl (fun _ => rfl) ?_
                  refine pw_add E (pc' := 51) rfl rfl ?_
                  refine pw_ald2 I E (c := 138) (pc' := 52) rfl rfl rfl (by decide) rfl (by decide) (by omega) (by omega) rfl (fun hf35a hf35b => ?_)
                  refine pw_if E (pc' := 59) rfl (by decide) (by omega) (by omega) ?_ ?_
                  · intro hc36
                    change pw_g h 138 (((12 * k) + mo).toNat) = (0 : Int) at hc36
                    refine pw_ld E (pc' := 60) (st' := [pw_i 1, .ref 141]) rfl (fun _ => rfl) ?_
                    refine pw_putI I E (c := 125) (k := 0) (pc' := 63) rfl rfl rfl rfl (by omega) (by omega) (by omega) (by omega) rfl rfl ?_
                    intro h37I h37E
                    generalize h37w : pw_w h 125 0 (pw_i 1) = h37 at h37I h37E ⊢
                    have h37F := E0.tr (h37E.wk (W' := [125]) (by first | rfl | simp))
                    refine pw_ld E (pc' := 64) (st' := [.ref 141]) rfl (fun _ => rfl) ?_
                    have he39 : pw_g h37 125 0 = 1 := by rw [← h37w]; exact pw_g_eq (c := 125) (k := 0) I rfl rfl (by omega) (by omega)
                    refine pw_getI2 h37I E (c := 125) (k := 0) (pc' := 67) rfl rfl rfl rfl rfl rfl (fun hf38a hf38b => ?_)
                    refine pw_if E (pc' := 72) rfl (by decide) (by omega) (by omega) ?_ ?_
                    · intro hc40
                      change pw_g h37 125 0 ≤ (0 : Int) at hc40
                      exfalso; omega
                    · intro hc41
                      change ¬ (pw_g h37 125 0 ≤ (0 : Int)) at hc41
                      refine pw_ld E (pc' := 71) (st' := [.long (Int64.ofInt 0)]) rfl (fun _ => rfl) ?_
                      refine pw_lret E rfl ?_
                      exact ⟨h37I, h37F, ⟨_, rfl⟩⟩
                  · intro hc42
                    change ¬ (pw_g h 138 (((12 * k) + mo).toNat) = (0 : Int)) at hc42
                    refine pw_ld E (pc' := 56) (st' := [pw_i 0, .ref 141]) rfl (fun _ => rfl) ?_
                    refine pw_goto E (pc' := 60) rfl (by decide) ?_
                    refine pw_putI I E (c := 125) (k := 0) (pc' := 63) rfl rfl rfl rfl (by omega) (by omega) (by omega) (by omega) rfl rfl ?_
                    intro h43I h43E
                    generalize h43w : pw_w h 125 0 (pw_i 0) = h43 at h43I h43E ⊢
                    have h43F := E0.tr (h43E.wk (W' := [125]) (by first | rfl | simp))
                    refine pw_ld E (pc' := 64) (st' := [.ref 141]) rfl (fun _ => rfl) ?_
                    have he45 : pw_g h43 125 0 = 0 := by rw [← h43w]; exact pw_g_eq (c := 125) (k := 0) I rfl rfl (by omega) (by omega)
                    refine pw_getI2 h43I E (c := 125) (k := 0) (pc' := 67) rfl rfl rfl rfl rfl rfl (fun hf44a hf44b => ?_)
                    refine pw_if E (pc' := 72) rfl (by decide) (by omega) (by omega) ?_ ?_
                    · intro hc46
                      change pw_g h43 125 0 ≤ (0 : Int) at hc46
                      refine pw_ld E (pc' := 73) (st' := [pw_i wt]) rfl (fun _ => rfl) ?_
                      refine pw_if E (pc' := 85) rfl (by decide) (by omega) (by omega) ?_ ?_
                      · intro hc47
                        change wt ≠ (0 : Int) at hc47
                        refine pw_ld E (pc' := 86) (st' := [pw_i wt]) rfl (fun _ => rfl) ?_
                        refine pw_ld E (pc' := 87) (st' := [pw_i 1, pw_i wt]) rfl (fun _ => rfl) ?_
                        refine pw_if2 E (pc' := 99) rfl (by decide) (by omega) (by omega) (by decide) (by decide) ?_ ?_
                        · intro hc48
                          change wt ≠ (1 : Int) at hc48
                          refine pw_ld E (pc' := 100) (st' := [.ref 141]) rfl (fun _ => rfl) ?_
                          refine pw_ld E (pc' := 101) (st' := [pw_i k, .ref 141]) rfl (fun _ => rfl) ?_
                          refine pw_ld E (pc' := 102) (st' := [pw_i mo, pw_i k, .ref 141]) rfl (fun _ => rfl) ?_
                          obtain ⟨f49l, f49h, -⟩ := pw_obj (c := 125) h43I rfl
                          refine pw_call (m' := 291) (As := [.ref 141, pw_i k, pw_i mo]) (rest := []) (ls'' := [some (.ref 141), some (pw_i k), some (pw_i mo)]) (Nat.le_trans (by decide) hd) E rfl (fun _ => pw_iV rfl rfl rfl rfl (pw_cellI f49h rfl)) (rfl : pm_ent 291 = some (3, 3, 12, 2, pmc_291)) rfl rfl (cm_291 (pw_dp hd (by decide)) h43I (k) (by omega) (by omega) (mo) (by omega) (by omega)) ?_
                          rintro u51 v50 ⟨rfl, w52, rfl⟩
                          refine ⟨_, rfl, ?_⟩
                          show pw X d h43 288 105 [some (.ref 141), some (pw_i k), some (pw_i mo), some (pw_i wt), some (pw_i 1)] [.long w52] _
                          refine pw_lret E rfl ?_
                          exact ⟨h43I, h43F, ⟨_, rfl⟩⟩
                        · intro hc53
                          change ¬ (wt ≠ (1 : Int)) at hc53
                          refine pw_ld E (pc' := 91) (st' := [.ref 141]) rfl (fun _ => rfl) ?_
                          refine pw_ld E (pc' := 92) (st' := [pw_i k, .ref 141]) rfl (fun _ => rfl) ?_
                          refine pw_ld E (pc' := 93) (st' := [pw_i mo, pw_i k, .ref 141]) rfl (fun _ => rfl) ?_
                          obtain ⟨f54l, f54h, -⟩ := pw_obj (c := 125) h43I rfl
                          refine pw_call (m' := 290) (As := [.ref 141, pw_i k, pw_i mo]) (rest := []) (ls'' := [some (.ref 141), some (pw_i k), some (pw_i mo)]) (Nat.le_trans (by decide) hd) E rfl (fun _ => pw_iV rfl rfl rfl rfl (pw_cellI f54h rfl)) (rfl : pm_ent 290 = some (3, 3, 12, 2, pmc_290)) rfl rfl (cm_290 (pw_dp hd (by decide)) h43I (k) (by omega) (by omega) (mo) (by omega) (by omega)) ?_
                          rintro u56 v55 ⟨rfl, w57, rfl⟩
                          refine ⟨_, rfl, ?_⟩
                          show pw X d h43 288 96 [some (.ref 141), some (pw_i k), some (pw_i mo), some (pw_i wt), some (pw_i 1)] [.long w57] _
                          refine pw_goto E (pc' := 105) rfl (by decide) ?_
                          refine pw_lret E rfl ?_
                          exact ⟨h43I, h43F, ⟨_, rfl⟩⟩
                      · intro hc58
                        change ¬ (wt ≠ (0 : Int)) at hc58
                        exfalso; omega
                    · intro hc59
                      change ¬ (pw_g h43 125 0 ≤ (0 : Int)) at hc59
                      exfalso; omega
          · skip
            refine pw_if E (pc' := 28) rfl (by decide) (by omega) (by omega) ?_ ?_
            · intro hc61
              change x16 = (0 : Int) at hc61
              refine pw_ld E (pc' := 29) (st' := [pw_i 0]) rfl (fun _ => rfl) ?_
              refine pw_ist E (pc' := 31) (ls' := [some (.ref 141), some (pw_i k), some (pw_i mo), some (pw_i wt), some (pw_i 0)]) rfl rfl rfl rfl ?_
              refine pw_ld E (pc' := 32) (st' := [.ref 141]) rfl (fun _ => rfl) ?_
              refine pw_ld E (pc' := 34) (st' := [pw_i 0, .ref 141]) rfl (fun _ => rfl) ?_
              refine pw_if E (pc' := 59) rfl (by decide) (by decide) (by decide) ?_ ?_
              · intro hc62
                change (0 : Int) = (0 : Int) at hc62
                refine pw_ld E (pc' := 60) (st' := [pw_i 1, .ref 141]) rfl (fun _ => rfl) ?_
                refine pw_putI I E (c := 125) (k := 0) (pc' := 63) rfl rfl rfl rfl (by omega) (by omega) (by omega) (by omega) rfl rfl ?_
                intro h63I h63E
                generalize h63w : pw_w h 125 0 (pw_i 1) = h63 at h63I h63E ⊢
                have h63F := E0.tr (h63E.wk (W' := [125]) (by first | rfl | simp))
                refine pw_ld E (pc' := 64) (st' := [.ref 141]) rfl (fun _ => rfl) ?_
                have he65 : pw_g h63 125 0 = 1 := by rw [← h63w]; exact pw_g_eq (c := 125) (k := 0) I rfl rfl (by omega) (by omega)
                refine pw_getI2 h63I E (c := 125) (k := 0) (pc' := 67) rfl rfl rfl rfl rfl rfl (fun hf64a hf64b => ?_)
                refine pw_if E (pc' := 72) rfl (by decide) (by omega) (by omega) ?_ ?_
                · intro hc66
                  change pw_g h63 125 0 ≤ (0 : Int) at hc66
                  exfalso; omega
                · intro hc67
                  change ¬ (pw_g h63 125 0 ≤ (0 : Int)) at hc67
                  refine pw_ld E (pc' := 71) (st' := [.long (Int64.ofInt 0)]) rfl (fun _ => rfl) ?_
                  refine pw_lret E rfl ?_
                  exact ⟨h63I, h63F, ⟨_, rfl⟩⟩
              · intro hc68
                change ¬ ((0 : Int) = (0 : Int)) at hc68
                exfalso; omega
            · intro hc69
              change ¬ (x16 = (0 : Int)) at hc69
              exfalso; omega
      · skip
        refine pw_if E (pc' := 28) rfl (by decide) (by omega) (by omega) ?_ ?_
        · intro hc71
          change x10 = (0 : Int) at hc71
          refine pw_ld E (pc' := 29) (st' := [pw_i 0]) rfl (fun _ => rfl) ?_
          refine pw_ist E (pc' := 31) (ls' := [some (.ref 141), some (pw_i k), some (pw_i mo), some (pw_i wt), some (pw_i 0)]) rfl rfl rfl rfl ?_
          refine pw_ld E (pc' := 32) (st' := [.ref 141]) rfl (fun _ => rfl) ?_
          refine pw_ld E (pc' := 34) (st' := [pw_i 0, .ref 141]) rfl (fun _ => rfl) ?_
          refine pw_if E (pc' := 59) rfl (by decide) (by decide) (by decide) ?_ ?_
          · intro hc72
            change (0 : Int) = (0 : Int) at hc72
            refine pw_ld E (pc' := 60) (st' := [pw_i 1, .ref 141]) rfl (fun _ => rfl) ?_
            refine pw_putI I E (c := 125) (k := 0) (pc' := 63) rfl rfl rfl rfl (by omega) (by omega) (by omega) (by omega) rfl rfl ?_
            intro h73I h73E
            generalize h73w : pw_w h 125 0 (pw_i 1) = h73 at h73I h73E ⊢
            have h73F := E0.tr (h73E.wk (W' := [125]) (by first | rfl | simp))
            refine pw_ld E (pc' := 64) (st' := [.ref 141]) rfl (fun _ => rfl) ?_
            have he75 : pw_g h73 125 0 = 1 := by rw [← h73w]; exact pw_g_eq (c := 125) (k := 0) I rfl rfl (by omega) (by omega)
            refine pw_getI2 h73I E (c := 125) (k := 0) (pc' := 67) rfl rfl rfl rfl rfl rfl (fun hf74a hf74b => ?_)
            refine pw_if E (pc' := 72) rfl (by decide) (by omega) (by omega) ?_ ?_
            · intro hc76
              change pw_g h73 125 0 ≤ (0 : Int) at hc76
              exfalso; omega
            · intro hc77
              change ¬ (pw_g h73 125 0 ≤ (0 : Int)) at hc77
              refine pw_ld E (pc' := 71) (st' := [.long (Int64.ofInt 0)]) rfl (fun _ => rfl) ?_
              refine pw_lret E rfl ?_
              exact ⟨h73I, h73F, ⟨_, rfl⟩⟩
          · intro hc78
            change ¬ ((0 : Int) = (0 : Int)) at hc78
            exfalso; omega
        · intro hc79
          change ¬ (x10 = (0 : Int)) at hc79
          exfalso; omega
  · skip
    refine pw_if E (pc' := 28) rfl (by decide) (by omega) (by omega) ?_ ?_
    · intro hc81
      change x4 = (0 : Int) at hc81
      refine pw_ld E (pc' := 29) (st' := [pw_i 0]) rfl (fun _ => rfl) ?_
      refine pw_ist E (pc' := 31) (ls' := [some (.ref 141), some (pw_i k), some (pw_i mo), some (pw_i wt), some (pw_i 0)]) rfl rfl rfl rfl ?_
      refine pw_ld E (pc' := 32) (st' := [.ref 141]) rfl (fun _ => rfl) ?_
      refine pw_ld E (pc' := 34) (st' := [pw_i 0, .ref 141]) rfl (fun _ => rfl) ?_
      refine pw_if E (pc' := 59) rfl (by decide) (by decide) (by decide) ?_ ?_
      · intro hc82
        change (0 : Int) = (0 : Int) at hc82
        refine pw_ld E (pc' := 60) (st' := [pw_i 1, .ref 141]) rfl (fun _ => rfl) ?_
        refine pw_putI I E (c := 125) (k := 0) (pc' := 63) rfl rfl rfl rfl (by omega) (by omega) (by omega) (by omega) rfl rfl ?_
        intro h83I h83E
        generalize h83w : pw_w h 125 0 (pw_i 1) = h83 at h83I h83E ⊢
        have h83F := E0.tr (h83E.wk (W' := [125]) (by first | rfl | simp))
        refine pw_ld E (pc' := 64) (st' := [.ref 141]) rfl (fun _ => rfl) ?_
        have he85 : pw_g h83 125 0 = 1 := by rw [← h83w]; exact pw_g_eq (c := 125) (k := 0) I rfl rfl (by omega) (by omega)
        refine pw_getI2 h83I E (c := 125) (k := 0) (pc' := 67) rfl rfl rfl rfl rfl rfl (fun hf84a hf84b => ?_)
        refine pw_if E (pc' := 72) rfl (by decide) (by omega) (by omega) ?_ ?_
        · intro hc86
          change pw_g h83 125 0 ≤ (0 : Int) at hc86
          exfalso; omega
        · intro hc87
          change ¬ (pw_g h83 125 0 ≤ (0 : Int)) at hc87
          refine pw_ld E (pc' := 71) (st' := [.long (Int64.ofInt 0)]) rfl (fun _ => rfl) ?_
          refine pw_lret E rfl ?_
          exact ⟨h83I, h83F, ⟨_, rfl⟩⟩
      · intro hc88
        change ¬ ((0 : Int) = (0 : Int)) at hc88
        exfalso; omega
    · intro hc89
      change ¬ (x4 = (0 : Int)) at hc89
      exfalso; omega
set_option maxHeartbeats 4000000 in
theorem cm_293 {X : List (Nat × List Value)} {d : Nat} {h : pm_H} (hd : 5 ≤ d) (I : pw_I h) (k : Int) (hk1 : 0 ≤ k) (hk2 : k ≤ 23) (b : Int) (hb1 : 0 ≤ b) (hb2 : b ≤ 11) (e : Int) (he1 : 0 ≤ e) (he2 : e ≤ 11) (wt : Int) (hwt1 : (-2147483648) ≤ wt) (hwt2 : wt ≤ 2147483647) : pw X d h 293 0 [some (.ref 141), some (pw_i k), some (pw_i b), some (pw_i e), some (pw_i wt), none, none, none, none, none, none, none, none] [] (fun h' v => h = h' ∧ ∃ w : Int64, v = .inl (some (.long w))) := by
  have E : pm_ent 293 = some (5, 13, 12, 2, pmc_293) := rfl
  refine pw_ld E (pc' := 1) (st' := [.ref 141]) rfl (fun _ => rfl) ?_
  refine pw_ld E (pc' := 2) (st' := [pw_i k, .ref 141]) rfl (fun _ => rfl) ?_
  refine pw_ld E (pc' := 3) (st' := [pw_i b, pw_i k, .ref 141]) rfl (fun _ => rfl) ?_
  obtain ⟨f1l, f1h, -⟩ := pw_obj (c := 125) I rfl
  refine pw_call (m' := 210) (As := [.ref 141, pw_i k, pw_i b]) (rest := []) (ls'' := [some (.ref 141), some (pw_i k), some (pw_i b)]) (Nat.le_trans (by decide) hd) E rfl (fun _ => pw_iV rfl rfl rfl rfl (pw_cellI f1h rfl)) (rfl : pm_ent 210 = some (3, 3, 12, 0, pmc_210)) rfl rfl (cm_210 (pw_dp hd (by decide)) I (k) (by omega) (by omega) (b) (by omega) (by omega)) ?_
  rintro u3 v2 ⟨rfl, x4, rfl, hx4a, hx4b⟩
  refine ⟨_, rfl, ?_⟩
  show pw X d h 293 6 [some (.ref 141), some (pw_i k), some (pw_i b), some (pw_i e), some (pw_i wt), none, none, none, none, none, none, none, none] [pw_i x4] _
  refine pw_i2l E (pc' := 7) rfl rfl (by omega) (by omega) ?_
  refine pw_lst E (pc' := 9) (ls' := [some (.ref 141), some (pw_i k), some (pw_i b), some (pw_i e), some (pw_i wt), some (.long (Int64.ofInt x4)), none, none, none, none, none, none, none]) rfl rfl rfl rfl ?_
  refine pw_ld E (pc' := 10) (st' := [.ref 141]) rfl (fun _ => rfl) ?_
  refine pw_ld E (pc' := 11) (st' := [pw_i k, .ref 141]) rfl (fun _ => rfl) ?_
  refine pw_ld E (pc' := 12) (st' := [pw_i e, pw_i k, .ref 141]) rfl (fun _ => rfl) ?_
  obtain ⟨f5l, f5h, -⟩ := pw_obj (c := 125) I rfl
  refine pw_call (m' := 210) (As := [.ref 141, pw_i k, pw_i e]) (rest := []) (ls'' := [some (.ref 141), some (pw_i k), some (pw_i e)]) (Nat.le_trans (by decide) hd) E rfl (fun _ => pw_iV rfl rfl rfl rfl (pw_cellI f5h rfl)) (rfl : pm_ent 210 = some (3, 3, 12, 0, pmc_210)) rfl rfl (cm_210 (pw_dp hd (by decide)) I (k) (by omega) (by omega) (e) (by omega) (by omega)) ?_
  rintro u7 v6 ⟨rfl, x8, rfl, hx8a, hx8b⟩
  refine ⟨_, rfl, ?_⟩
  show pw X d h 293 15 [some (.ref 141), some (pw_i k), some (pw_i b), some (pw_i e), some (pw_i wt), some (.long (Int64.ofInt x4)), none, none, none, none, none, none, none] [pw_i x8] _
  refine pw_i2l E (pc' := 16) rfl rfl (by omega) (by omega) ?_
  refine pw_lst E (pc' := 18) (ls' := [some (.ref 141), some (pw_i k), some (pw_i b), some (pw_i e), some (pw_i wt), some (.long (Int64.ofInt x4)), none, some (.long (Int64.ofInt x8)), none, none, none, none, none]) rfl rfl rfl rfl ?_
  refine pw_ld E (pc' := 19) (st' := [.ref 141]) rfl (fun _ => rfl) ?_
  refine pw_getR (b := 178) I E (c := 125) (k := 51) (pc' := 22) rfl rfl rfl rfl rfl rfl rfl ?_
  refine pw_bip E (pc' := 24) rfl rfl (by decide) ?_
  refine pw_ld E (pc' := 25) (st' := [pw_i k, pw_i 12, .ref 178]) rfl (fun _ => rfl) ?_
  refine pw_mul E (pc' := 26) rfl rfl ?_
  refine pw_ld E (pc' := 27) (st' := [pw_i b, pw_i (12 * k), .ref 178]) rfl (fun _ => rfl) ?_
  refine pw_add E (pc' := 28) rfl rfl ?_
  refine pw_ald2 I E (c := 162) (pc' := 29) rfl rfl rfl (by decide) rfl (by decide) (by omega) (by omega) rfl (fun hf9a hf9b => ?_)
  refine pw_i2l E (pc' := 30) rfl rfl (by omega) (by omega) ?_
  refine pw_lst E (pc' := 32) (ls' := [some (.ref 141), some (pw_i k), some (pw_i b), some (pw_i e), some (pw_i wt), some (.long (Int64.ofInt x4)), none, some (.long (Int64.ofInt x8)), none, some (.long (Int64.ofInt (pw_g h 162 (((12 * k) + b).toNat)))), none, none, none]) rfl rfl rfl rfl ?_
  refine pw_ld E (pc' := 33) (st' := [.ref 141]) rfl (fun _ => rfl) ?_
  refine pw_getR (b := 178) I E (c := 125) (k := 51) (pc' := 36) rfl rfl rfl rfl rfl rfl rfl ?_
  refine pw_bip E (pc' := 38) rfl rfl (by decide) ?_
  refine pw_ld E (pc' := 39) (st' := [pw_i k, pw_i 12, .ref 178]) rfl (fun _ => rfl) ?_
  refine pw_mul E (pc' := 40) rfl rfl ?_
  refine pw_ld E (pc' := 41) (st' := [pw_i e, pw_i (12 * k), .ref 178]) rfl (fun _ => rfl) ?_
  refine pw_add E (pc' := 42) rfl rfl ?_
  refine pw_ald2 I E (c := 162) (pc' := 43) rfl rfl rfl (by decide) rfl (by decide) (by omega) (by omega) rfl (fun hf10a hf10b => ?_)
  refine pw_i2l E (pc' := 44) rfl rfl (by omega) (by omega) ?_
  refine pw_lst E (pc' := 46) (ls' := [some (.ref 141), some (pw_i k), some (pw_i b), some (pw_i e), some (pw_i wt), some (.long (Int64.ofInt x4)), none, some (.long (Int64.ofInt x8)), none, some (.long (Int64.ofInt (pw_g h 162 (((12 * k) + b).toNat)))), none, some (.long (Int64.ofInt (pw_g h 162 (((12 * k) + e).toNat)))), none]) rfl rfl rfl rfl ?_
  refine pw_ld E (pc' := 48) (st' := [pw_i wt]) rfl (fun _ => rfl) ?_
  rcases (by omega : wt = 0 ∨ wt = 1 ∨ wt = 2 ∨ wt = 3 ∨ wt = 4 ∨ (wt < 0 ∨ 4 < wt)) with hs11 | hs11 | hs11 | hs11 | hs11 | hs11
  · refine pw_tswJ (o := 36) E (pc' := 84) rfl (by omega) (by omega) (by omega) (by rw [hs11]; rfl) (by decide) ?_
    refine pw_ld E (pc' := 85) (st' := [.ref 141]) rfl (fun _ => rfl) ?_
    refine pw_ld E (pc' := 86) (st' := [pw_i k, .ref 141]) rfl (fun _ => rfl) ?_
    refine pw_ld E (pc' := 87) (st' := [pw_i e, pw_i k, .ref 141]) rfl (fun _ => rfl) ?_
    obtain ⟨f12l, f12h, -⟩ := pw_obj (c := 125) I rfl
    refine pw_call (m' := 290) (As := [.ref 141, pw_i k, pw_i e]) (rest := []) (ls'' := [some (.ref 141), some (pw_i k), some (pw_i e)]) (Nat.le_trans (by decide) hd) E rfl (fun _ => pw_iV rfl rfl rfl rfl (pw_cellI f12h rfl)) (rfl : pm_ent 290 = some (3, 3, 12, 2, pmc_290)) rfl rfl (cm_290 (pw_dp hd (by decide)) I (k) (by omega) (by omega) (e) (by omega) (by omega)) ?_
    rintro u14 v13 ⟨rfl, w15, rfl⟩
    refine ⟨_, rfl, ?_⟩
    show pw X d h 293 90 [some (.ref 141), some (pw_i k), some (pw_i b), some (pw_i e), some (pw_i wt), some (.long (Int64.ofInt x4)), none, some (.long (Int64.ofInt x8)), none, some (.long (Int64.ofInt (pw_g h 162 (((12 * k) + b).toNat)))), none, some (.long (Int64.ofInt (pw_g h 162 (((12 * k) + e).toNat)))), none] [.long w15] _
    refine pw_ld E (pc' := 91) (st' := [.ref 141, .long w15]) rfl (fun _ => rfl) ?_
    refine pw_ld E (pc' := 92) (st' := [pw_i k, .ref 141, .long w15]) rfl (fun _ => rfl) ?_
    refine pw_ld E (pc' := 93) (st' := [pw_i b, pw_i k, .ref 141, .long w15]) rfl (fun _ => rfl) ?_
    obtain ⟨f16l, f16h, -⟩ := pw_obj (c := 125) I rfl
    refine pw_call (m' := 290) (As := [.ref 141, pw_i k, pw_i b]) (rest := [.long w15]) (ls'' := [some (.ref 141), some (pw_i k), some (pw_i b)]) (Nat.le_trans (by decide) hd) E rfl (fun _ => pw_iV rfl rfl rfl rfl (pw_cellI f16h rfl)) (rfl : pm_ent 290 = some (3, 3, 12, 2, pmc_290)) rfl rfl (cm_290 (pw_dp hd (by decide)) I (k) (by omega) (by omega) (b) (by omega) (by omega)) ?_
    rintro u18 v17 ⟨rfl, w19, rfl⟩
    refine ⟨_, rfl, ?_⟩
    show pw X d h 293 96 [some (.ref 141), some (pw_i k), some (pw_i b), some (pw_i e), some (pw_i wt), some (.long (Int64.ofInt x4)), none, some (.long (Int64.ofInt x8)), none, some (.long (Int64.ofInt (pw_g h 162 (((12 * k) + b).toNat)))), none, some (.long (Int64.ofInt (pw_g h 162 (((12 * k) + e).toNat)))), none] [.long w19, .long w15] _
    refine pw_ld E (pc' := 97) (st' := [.long (w15 - w19)]) rfl (fun _ => rfl) ?_
    refine pw_lret E rfl ?_
    exact ⟨rfl, ⟨_, rfl⟩⟩
  · refine pw_tswJ (o := 50) E (pc' := 98) rfl (by omega) (by omega) (by omega) (by rw [hs11]; rfl) (by decide) ?_
    refine pw_ld E (pc' := 100) (st' := [.long (Int64.ofInt x8)]) rfl (fun _ => rfl) ?_
    refine pw_ld E (pc' := 102) (st' := [.long (Int64.ofInt x4), .long (Int64.ofInt x8)]) rfl (fun _ => rfl) ?_
    refine pw_lsub E (pc' := 103) rfl rfl ?_
    refine pw_ld E (pc' := 105) (st' := [.long (Int64.ofInt (pw_g h 162 (((12 * k) + b).toNat))), .long (Int64.ofInt (x8 - x4))]) rfl (fun _ => rfl) ?_
    refine pw_lmul E (pc' := 106) rfl rfl ?_
    refine pw_ld E (pc' := 107) (st' := [.ref 141, .long (Int64.ofInt ((x8 - x4) * (pw_g h 162 (((12 * k) + b).toNat))))]) rfl (fun _ => rfl) ?_
    refine pw_ld E (pc' := 108) (st' := [pw_i k, .ref 141, .long (Int64.ofInt ((x8 - x4) * (pw_g h 162 (((12 * k) + b).toNat))))]) rfl (fun _ => rfl) ?_
    refine pw_ld E (pc' := 109) (st' := [pw_i b, pw_i k, .ref 141, .long (Int64.ofInt ((x8 - x4) * (pw_g h 162 (((12 * k) + b).toNat))))]) rfl (fun _ => rfl) ?_
    obtain ⟨f20l, f20h, -⟩ := pw_obj (c := 125) I rfl
    refine pw_call (m' := 289) (As := [.ref 141, pw_i k, pw_i b]) (rest := [.long (Int64.ofInt ((x8 - x4) * (pw_g h 162 (((12 * k) + b).toNat))))]) (ls'' := [some (.ref 141), some (pw_i k), some (pw_i b), none]) (Nat.le_trans (by decide) hd) E rfl (fun _ => pw_iV rfl rfl rfl rfl (pw_cellI f20h rfl)) (rfl : pm_ent 289 = some (3, 4, 12, 2, pmc_289)) rfl rfl (cm_289 (pw_dp hd (by decide)) I (k) (by omega) (by omega) (b) (by omega) (by omega)) ?_
    rintro u22 v21 ⟨rfl, w23, rfl⟩
    refine ⟨_, rfl, ?_⟩
    show pw X d h 293 112 [some (.ref 141), some (pw_i k), some (pw_i b), some (pw_i e), some (pw_i wt), some (.long (Int64.ofInt x4)), none, some (.long (Int64.ofInt x8)), none, some (.long (Int64.ofInt (pw_g h 162 (((12 * k) + b).toNat)))), none, some (.long (Int64.ofInt (pw_g h 162 (((12 * k) + e).toNat)))), none] [.long w23, .long (Int64.ofInt ((x8 - x4) * (pw_g h 162 (((12 * k) + b).toNat))))] _
    refine pw_ld E (pc' := 113) (st' := [.long ((Int64.ofInt ((x8 - x4) * (pw_g h 162 (((12 * k) + b).toNat)))) * w23)]) rfl (fun _ => rfl) ?_
    refine pw_lret E rfl ?_
    exact ⟨rfl, ⟨_, rfl⟩⟩
  · refine pw_tswJ (o := 66) E (pc' := 114) rfl (by omega) (by omega) (by omega) (by rw [hs11]; rfl) (by decide) ?_
    refine pw_ld E (pc' := 116) (st' := [.long (Int64.ofInt x8)]) rfl (fun _ => rfl) ?_
    refine pw_ld E (pc' := 118) (st' := [.long (Int64.ofInt (pw_g h 162 (((12 * k) + e).toNat))), .long (Int64.ofInt x8)]) rfl (fun _ => rfl) ?_
    refine pw_ld E (pc' := 120) (st' := [.long (Int64.ofInt (pw_g h 162 (((12 * k) + b).toNat))), .long (Int64.ofInt (pw_g h 162 (((12 * k) + e).toNat))), .long (Int64.ofInt x8)]) rfl (fun _ => rfl) ?_
    refine pw_lsub E (pc' := 121) rfl rfl ?_
    refine pw_lmul E (pc' := 122) rfl rfl ?_
    refine pw_ld E (pc' := 123) (st' := [.ref 141, .long (Int64.ofInt (x8 * ((pw_g h 162 (((12 * k) + e).toNat)) - (pw_g h 162 (((12 * k) + b).toNat)))))]) rfl (fun _ => rfl) ?_
    refine pw_ld E (pc' := 124) (st' := [pw_i k, .ref 141, .long (Int64.ofInt (x8 * ((pw_g h 162 (((12 * k) + e).toNat)) - (pw_g h 162 (((12 * k) + b).toNat)))))]) rfl (fun _ => rfl) ?_
    refine pw_ld E (pc' := 125) (st' := [pw_i b, pw_i k, .ref 141, .long (Int64.ofInt (x8 * ((pw_g h 162 (((12 * k) + e).toNat)) - (pw_g h 162 (((12 * k) + b).toNat)))))]) rfl (fun _ => rfl) ?_
    obtain ⟨f24l, f24h, -⟩ := pw_obj (c := 125) I rfl
    refine pw_call (m' := 289) (As := [.ref 141, pw_i k, pw_i b]) (rest := [.long (Int64.ofInt (x8 * ((pw_g h 162 (((12 * k) + e).toNat)) - (pw_g h 162 (((12 * k) + b).toNat)))))]) (ls'' := [some (.ref 141), some (pw_i k), some (pw_i b), none]) (Nat.le_trans (by decide) hd) E rfl (fun _ => pw_iV rfl rfl rfl rfl (pw_cellI f24h rfl)) (rfl : pm_ent 289 = some (3, 4, 12, 2, pmc_289)) rfl rfl (cm_289 (pw_dp hd (by decide)) I (k) (by omega) (by omega) (b) (by omega) (by omega)) ?_
    rintro u26 v25 ⟨rfl, w27, rfl⟩
    refine ⟨_, rfl, ?_⟩
    show pw X d h 293 128 [some (.ref 141), some (pw_i k), some (pw_i b), some (pw_i e), some (pw_i wt), some (.long (Int64.ofInt x4)), none, some (.long (Int64.ofInt x8)), none, some (.long (Int64.ofInt (pw_g h 162 (((12 * k) + b).toNat)))), none, some (.long (Int64.ofInt (pw_g h 162 (((12 * k) + e).toNat)))), none] [.long w27, .long (Int64.ofInt (x8 * ((pw_g h 162 (((12 * k) + e).toNat)) - (pw_g h 162 (((12 * k) + b).toNat)))))] _
    refine pw_ld E (pc' := 129) (st' := [.long ((Int64.ofInt (x8 * ((pw_g h 162 (((12 * k) + e).toNat)) - (pw_g h 162 (((12 * k) + b).toNat))))) * w27)]) rfl (fun _ => rfl) ?_
    refine pw_lret E rfl ?_
    exact ⟨rfl, ⟨_, rfl⟩⟩
  · refine pw_tswJ (o := 82) E (pc' := 130) rfl (by omega) (by omega) (by omega) (by rw [hs11]; rfl) (by decide) ?_
    refine pw_ld E (pc' := 132) (st' := [.long (Int64.ofInt x8)]) rfl (fun _ => rfl) ?_
    refine pw_ld E (pc' := 134) (st' := [.long (Int64.ofInt (pw_g h 162 (((12 * k) + e).toNat))), .long (Int64.ofInt x8)]) rfl (fun _ => rfl) ?_
    refine pw_lmul E (pc' := 135) rfl rfl ?_
    refine pw_ld E (pc' := 136) (st' := [.ref 141, .long (Int64.ofInt (x8 * (pw_g h 162 (((12 * k) + e).toNat))))]) rfl (fun _ => rfl) ?_
    refine pw_ld E (pc' := 137) (st' := [pw_i k, .ref 141, .long (Int64.ofInt (x8 * (pw_g h 162 (((12 * k) + e).toNat))))]) rfl (fun _ => rfl) ?_
    refine pw_ld E (pc' := 138) (st' := [pw_i e, pw_i k, .ref 141, .long (Int64.ofInt (x8 * (pw_g h 162 (((12 * k) + e).toNat))))]) rfl (fun _ => rfl) ?_
    obtain ⟨f28l, f28h, -⟩ := pw_obj (c := 125) I rfl
    refine pw_call (m' := 289) (As := [.ref 141, pw_i k, pw_i e]) (rest := [.long (Int64.ofInt (x8 * (pw_g h 162 (((12 * k) + e).toNat))))]) (ls'' := [some (.ref 141), some (pw_i k), some (pw_i e), none]) (Nat.le_trans (by decide) hd) E rfl (fun _ => pw_iV rfl rfl rfl rfl (pw_cellI f28h rfl)) (rfl : pm_ent 289 = some (3, 4, 12, 2, pmc_289)) rfl rfl (cm_289 (pw_dp hd (by decide)) I (k) (by omega) (by omega) (e) (by omega) (by omega)) ?_
    rintro u30 v29 ⟨rfl, w31, rfl⟩
    refine ⟨_, rfl, ?_⟩
    show pw X d h 293 141 [some (.ref 141), some (pw_i k), some (pw_i b), some (pw_i e), some (pw_i wt), some (.long (Int64.ofInt x4)), none, some (.long (Int64.ofInt x8)), none, some (.long (Int64.ofInt (pw_g h 162 (((12 * k) + b).toNat)))), none, some (.long (Int64.ofInt (pw_g h 162 (((12 * k) + e).toNat)))), none] [.long w31, .long (Int64.ofInt (x8 * (pw_g h 162 (((12 * k) + e).toNat))))] _
    refine pw_ld E (pc' := 142) (st' := [.ref 141, .long w31, .long (Int64.ofInt (x8 * (pw_g h 162 (((12 * k) + e).toNat))))]) rfl (fun _ => rfl) ?_
    refine pw_ld E (pc' := 143) (st' := [pw_i k, .ref 141, .long w31, .long (Int64.ofInt (x8 * (pw_g h 162 (((12 * k) + e).toNat))))]) rfl (fun _ => rfl) ?_
    refine pw_ld E (pc' := 144) (st' := [pw_i b, pw_i k, .ref 141, .long w31, .long (Int64.ofInt (x8 * (pw_g h 162 (((12 * k) + e).toNat))))]) rfl (fun _ => rfl) ?_
    obtain ⟨f32l, f32h, -⟩ := pw_obj (c := 125) I rfl
    refine pw_call (m' := 289) (As := [.ref 141, pw_i k, pw_i b]) (rest := [.long w31, .long (Int64.ofInt (x8 * (pw_g h 162 (((12 * k) + e).toNat))))]) (ls'' := [some (.ref 141), some (pw_i k), some (pw_i b), none]) (Nat.le_trans (by decide) hd) E rfl (fun _ => pw_iV rfl rfl rfl rfl (pw_cellI f32h rfl)) (rfl : pm_ent 289 = some (3, 4, 12, 2, pmc_289)) rfl rfl (cm_289 (pw_dp hd (by decide)) I (k) (by omega) (by omega) (b) (by omega) (by omega)) ?_
    rintro u34 v33 ⟨rfl, w35, rfl⟩
    refine ⟨_, rfl, ?_⟩
    show pw X d h 293 147 [some (.ref 141), some (pw_i k), some (pw_i b), some (pw_i e), some (pw_i wt), some (.long (Int64.ofInt x4)), none, some (.long (Int64.ofInt x8)), none, some (.long (Int64.ofInt (pw_g h 162 (((12 * k) + b).toNat)))), none, some (.long (Int64.ofInt (pw_g h 162 (((12 * k) + e).toNat)))), none] [.long w35, .long w31, .long (Int64.ofInt (x8 * (pw_g h 162 (((12 * k) + e).toNat))))] _
    refine pw_ld E (pc' := 148) (st' := [.long (w31 - w35), .long (Int64.ofInt (x8 * (pw_g h 162 (((12 * k) + e).toNat))))]) rfl (fun _ => rfl) ?_
    refine pw_ld E (pc' := 149) (st' := [.long ((Int64.ofInt (x8 * (pw_g h 162 (((12 * k) + e).toNat)))) * (w31 - w35))]) rfl (fun _ => rfl) ?_
    refine pw_lret E rfl ?_
    exact ⟨rfl, ⟨_, rfl⟩⟩
  · refine pw_tswJ (o := 102) E (pc' := 150) rfl (by omega) (by omega) (by omega) (by rw [hs11]; rfl) (by decide) ?_
    refine pw_ld E (pc' := 153) (st' := [.long (Int64.ofInt 10)]) rfl (fun _ => rfl) ?_
    refine pw_ld E (pc' := 154) (st' := [.ref 141, .long (Int64.ofInt 10)]) rfl (fun _ => rfl) ?_
    refine pw_getR (b := 179) I E (c := 125) (k := 52) (pc' := 157) rfl rfl rfl rfl rfl rfl rfl ?_
    refine pw_bip E (pc' := 159) rfl rfl (by decide) ?_
    refine pw_ld E (pc' := 160) (st' := [pw_i k, pw_i 12, .ref 179, .long (Int64.ofInt 10)]) rfl (fun _ => rfl) ?_
    refine pw_mul E (pc' := 161) rfl rfl ?_
    refine pw_ld E (pc' := 162) (st' := [pw_i e, pw_i (12 * k), .ref 179, .long (Int64.ofInt 10)]) rfl (fun _ => rfl) ?_
    refine pw_add E (pc' := 163) rfl rfl ?_
    refine pw_ald2 I E (c := 163) (pc' := 164) rfl rfl rfl (by decide) rfl (by decide) (by omega) (by omega) rfl (fun hf36a hf36b => ?_)
    refine pw_ld E (pc' := 165) (st' := [.ref 141, pw_i (pw_g h 163 (((12 * k) + e).toNat)), .long (Int64.ofInt 10)]) rfl (fun _ => rfl) ?_
    refine pw_getR (b := 179) I E (c := 125) (k := 52) (pc' := 168) rfl rfl rfl rfl rfl rfl rfl ?_
    refine pw_bip E (pc' := 170) rfl rfl (by decide) ?_
    refine pw_ld E (pc' := 171) (st' := [pw_i k, pw_i 12, .ref 179, pw_i (pw_g h 163 (((12 * k) + e).toNat)), .long (Int64.ofInt 10)]) rfl (fun _ => rfl) ?_
    refine pw_mul E (pc' := 172) rfl rfl ?_
    refine pw_ld E (pc' := 173) (st' := [pw_i b, pw_i (12 * k), .ref 179, pw_i (pw_g h 163 (((12 * k) + e).toNat)), .long (Int64.ofInt 10)]) rfl (fun _ => rfl) ?_
    refine pw_add E (pc' := 174) rfl rfl ?_
    refine pw_ald2 I E (c := 163) (pc' := 175) rfl rfl rfl (by decide) rfl (by decide) (by omega) (by omega) rfl (fun hf37a hf37b => ?_)
    refine pw_sub E (pc' := 176) rfl rfl ?_
    refine pw_i2l E (pc' := 177) rfl rfl (by omega) (by omega) ?_
    refine pw_lmul E (pc' := 178) rfl rfl ?_
    refine pw_lret E rfl ?_
    exact ⟨rfl, ⟨_, rfl⟩⟩
  · refine pw_tswD E (pc' := 179) rfl (by omega) (by omega) hs11 (by decide) ?_
    refine pw_ld E (pc' := 180) (st' := [.ref 141]) rfl (fun _ => rfl) ?_
    refine pw_ld E (pc' := 181) (st' := [pw_i k, .ref 141]) rfl (fun _ => rfl) ?_
    refine pw_ld E (pc' := 182) (st' := [pw_i e, pw_i k, .ref 141]) rfl (fun _ => rfl) ?_
    obtain ⟨f38l, f38h, -⟩ := pw_obj (c := 125) I rfl
    refine pw_call (m' := 291) (As := [.ref 141, pw_i k, pw_i e]) (rest := []) (ls'' := [some (.ref 141), some (pw_i k), some (pw_i e)]) (Nat.le_trans (by decide) hd) E rfl (fun _ => pw_iV rfl rfl rfl rfl (pw_cellI f38h rfl)) (rfl : pm_ent 291 = some (3, 3, 12, 2, pmc_291)) rfl rfl (cm_291 (pw_dp hd (by decide)) I (k) (by omega) (by omega) (e) (by omega) (by omega)) ?_
    rintro u40 v39 ⟨rfl, w41, rfl⟩
    refine ⟨_, rfl, ?_⟩
    show pw X d h 293 185 [some (.ref 141), some (pw_i k), some (pw_i b), some (pw_i e), some (pw_i wt), some (.long (Int64.ofInt x4)), none, some (.long (Int64.ofInt x8)), none, some (.long (Int64.ofInt (pw_g h 162 (((12 * k) + b).toNat)))), none, some (.long (Int64.ofInt (pw_g h 162 (((12 * k) + e).toNat)))), none] [.long w41] _
    refine pw_ld E (pc' := 186) (st' := [.ref 141, .long w41]) rfl (fun _ => rfl) ?_
    refine pw_ld E (pc' := 187) (st' := [pw_i k, .ref 141, .long w41]) rfl (fun _ => rfl) ?_
    refine pw_ld E (pc' := 188) (st' := [pw_i b, pw_i k, .ref 141, .long w41]) rfl (fun _ => rfl) ?_
    obtain ⟨f42l, f42h, -⟩ := pw_obj (c := 125) I rfl
    refine pw_call (m' := 291) (As := [.ref 141, pw_i k, pw_i b]) (rest := [.long w41]) (ls'' := [some (.ref 141), some (pw_i k), some (pw_i b)]) (Nat.le_trans (by decide) hd) E rfl (fun _ => pw_iV rfl rfl rfl rfl (pw_cellI f42h rfl)) (rfl : pm_ent 291 = some (3, 3, 12, 2, pmc_291)) rfl rfl (cm_291 (pw_dp hd (by decide)) I (k) (by omega) (by omega) (b) (by omega) (by omega)) ?_
    rintro u44 v43 ⟨rfl, w45, rfl⟩
    refine ⟨_, rfl, ?_⟩
    show pw X d h 293 191 [some (.ref 141), some (pw_i k), some (pw_i b), some (pw_i e), some (pw_i wt), some (.long (Int64.ofInt x4)), none, some (.long (Int64.ofInt x8)), none, some (.long (Int64.ofInt (pw_g h 162 (((12 * k) + b).toNat)))), none, some (.long (Int64.ofInt (pw_g h 162 (((12 * k) + e).toNat)))), none] [.long w45, .long w41] _
    refine pw_ld E (pc' := 192) (st' := [.long (w41 - w45)]) rfl (fun _ => rfl) ?_
    refine pw_lret E rfl ?_
    exact ⟨rfl, ⟨_, rfl⟩⟩
set_option maxHeartbeats 4000000 in
theorem cm_292 {X : List (Nat × List Value)} {d : Nat} {h : pm_H} (hd : 6 ≤ d) (I : pw_I h) (bk : Int) (hbk1 : (-2147483648) ≤ bk) (hbk2 : bk ≤ 2147483647) (b : Int) (hb1 : (-2147483648) ≤ b) (hb2 : b ≤ 2147483647) (e : Int) (he1 : (-2147483648) ≤ e) (he2 : e ≤ 2147483647) (wt : Int) (hwt1 : (-2147483648) ≤ wt) (hwt2 : wt ≤ 2147483647) : pw X d h 292 0 [some (.ref 141), some (pw_i bk), some (pw_i b), some (pw_i e), some (pw_i wt), none, none, none] [] (fun h' v => pw_I h' ∧ pw_E [125] h h' ∧ ∃ w : Int64, v = .inl (some (.long w))) := by
  have E : pm_ent 292 = some (5, 8, 12, 2, pmc_292) := rfl
  have E0 : pw_E [125] h h := pw_E.rf _ _
  refine pw_ld E (pc' := 1) (st' := [.ref 141]) rfl (fun _ => rfl) ?_
  refine pw_ld E (pc' := 2) (st' := [pw_i bk, .ref 141]) rfl (fun _ => rfl) ?_
  refine pw_ld E (pc' := 3) (st' := [pw_i 0, pw_i bk, .ref 141]) rfl (fun _ => rfl) ?_
  refine pw_ld E (pc' := 4) (st' := [pw_i 1, pw_i 0, pw_i bk, .ref 141]) rfl (fun _ => rfl) ?_
  refine pw_call (m' := 202) (As := [pw_i bk, pw_i 0, pw_i 1]) (rest := [.ref 141]) (ls'' := [some (pw_i bk), some (pw_i 0), some (pw_i 1)]) (Nat.le_trans (by decide) hd) E rfl (fun _ => pw_iS rfl rfl rfl) (rfl : pm_ent 202 = some (3, 3, 12, 1, pmc_202)) rfl rfl (cm_202 (pw_dp hd (by decide)) I (bk) (by omega) (by omega) (0) (by omega) (by omega) (1) (by omega) (by omega)) ?_
  rintro u2 v1 ⟨rfl, x3, rfl, hx3a, hx3b, hx3r⟩
  refine ⟨_, rfl, ?_⟩
  show pw X d h 292 7 [some (.ref 141), some (pw_i bk), some (pw_i b), some (pw_i e), some (pw_i wt), none, none, none] [pw_i x3, .ref 141] _
  change (x3 = 1 ∧ 0 ≤ bk ∧ bk ≤ 1) ∨ (x3 = 0 ∧ ¬ (0 ≤ bk ∧ bk ≤ 1)) at hx3r
  rcases (by omega : x3 = 1 ∨ x3 = 0) with hb4 | hb4
  · skip
    refine pw_if E (pc' := 32) rfl (by decide) (by omega) (by omega) ?_ ?_
    · intro hc5
      change x3 = (0 : Int) at hc5
      exfalso; omega
    · intro hc6
      change ¬ (x3 = (0 : Int)) at hc6
      refine pw_ld E (pc' := 11) (st' := [pw_i b, .ref 141]) rfl (fun _ => rfl) ?_
      refine pw_ld E (pc' := 12) (st' := [pw_i e, pw_i b, .ref 141]) rfl (fun _ => rfl) ?_
      refine pw_call (m' := 213) (As := [pw_i b, pw_i e]) (rest := [.ref 141]) (ls'' := [some (pw_i b), some (pw_i e)]) (Nat.le_trans (by decide) hd) E rfl (fun _ => pw_iS rfl rfl rfl) (rfl : pm_ent 213 = some (2, 2, 12, 1, pmc_213)) rfl rfl (cm_213 (pw_dp hd (by decide)) I (b) (by omega) (by omega) (e) (by omega) (by omega)) ?_
      rintro u8 v7 ⟨rfl, x9, rfl, hx9a, hx9b, hx9r⟩
      refine ⟨_, rfl, ?_⟩
      show pw X d h 292 15 [some (.ref 141), some (pw_i bk), some (pw_i b), some (pw_i e), some (pw_i wt), none, none, none] [pw_i x9, .ref 141] _
      change (x9 = 1 ∧ 0 ≤ b ∧ b ≤ 11 ∧ 0 ≤ e ∧ e ≤ 11) ∨ x9 = 0 at hx9r
      rcases (by omega : x9 = 1 ∨ x9 = 0) with hb10 | hb10
      · skip
        refine pw_if E (pc' := 32) rfl (by decide) (by omega) (by omega) ?_ ?_
        · intro hc11
          change x9 = (0 : Int) at hc11
          exfalso; omega
        · intro hc12
          change ¬ (x9 = (0 : Int)) at hc12
          refine pw_ld E (pc' := 20) (st' := [pw_i wt, .ref 141]) rfl (fun _ => rfl) ?_
          refine pw_ld E (pc' := 21) (st' := [pw_i 0, pw_i wt, .ref 141]) rfl (fun _ => rfl) ?_
          refine pw_ld E (pc' := 22) (st' := [pw_i 5, pw_i 0, pw_i wt, .ref 141]) rfl (fun _ => rfl) ?_
          refine pw_call (m' := 202) (As := [pw_i wt, pw_i 0, pw_i 5]) (rest := [.ref 141]) (ls'' := [some (pw_i wt), some (pw_i 0), some (pw_i 5)]) (Nat.le_trans (by decide) hd) E rfl (fun _ => pw_iS rfl rfl rfl) (rfl : pm_ent 202 = some (3, 3, 12, 1, pmc_202)) rfl rfl (cm_202 (pw_dp hd (by decide)) I (wt) (by omega) (by omega) (0) (by omega) (by omega) (5) (by omega) (by omega)) ?_
          rintro u14 v13 ⟨rfl, x15, rfl, hx15a, hx15b, hx15r⟩
          refine ⟨_, rfl, ?_⟩
          show pw X d h 292 25 [some (.ref 141), some (pw_i bk), some (pw_i b), some (pw_i e), some (pw_i wt), none, none, none] [pw_i x15, .ref 141] _
          change (x15 = 1 ∧ 0 ≤ wt ∧ wt ≤ 5) ∨ (x15 = 0 ∧ ¬ (0 ≤ wt ∧ wt ≤ 5)) at hx15r
          rcases (by omega : x15 = 1 ∨ x15 = 0) with hb16 | hb16
          · skip
            refine pw_if E (pc' := 32) rfl (by decide) (by omega) (by omega) ?_ ?_
            · intro hc17
              change x15 = (0 : Int) at hc17
              exfalso; omega
            · intro hc18
              change ¬ (x15 = (0 : Int)) at hc18
              refine pw_ld E (pc' := 29) (st' := [pw_i 0, .ref 141]) rfl (fun _ => rfl) ?_
              refine pw_goto E (pc' := 33) rfl (by decide) ?_
              refine pw_putI I E (c := 125) (k := 0) (pc' := 36) rfl rfl rfl rfl (by omega) (by omega) (by omega) (by omega) rfl rfl ?_
              intro h19I h19E
              generalize h19w : pw_w h 125 0 (pw_i 0) = h19 at h19I h19E ⊢
              have h19F := E0.tr (h19E.wk (W' := [125]) (by first | rfl | simp))
              refine pw_ld E (pc' := 37) (st' := [.long (Int64.ofInt 0)]) rfl (fun _ => rfl) ?_
              refine pw_lst E (pc' := 39) (ls' := [some (.ref 141), some (pw_i bk), some (pw_i b), some (pw_i e), some (pw_i wt), some (.long (Int64.ofInt 0)), none, none]) rfl rfl rfl rfl ?_
              refine pw_ld E (pc' := 40) (st' := [pw_i 0]) rfl (fun _ => rfl) ?_
              refine pw_ist E (pc' := 42) (ls' := [some (.ref 141), some (pw_i bk), some (pw_i b), some (pw_i e), some (pw_i wt), some (.long (Int64.ofInt 0)), none, some (pw_i 0)]) rfl rfl rfl rfl ?_
              have L42 : ∀ (n42 : Nat) (k42_5 : Int64) (k42_7 : Int), 0 ≤ k42_7 → k42_7 ≤ 24 → (24 - k42_7).toNat = n42 → pw X d h19 292 42 [some (.ref 141), some (pw_i bk), some (pw_i b), some (pw_i e), some (pw_i wt), some (.long k42_5), none, some (pw_i k42_7)] [] (fun h' v => pw_I h' ∧ pw_E [125] h h' ∧ ∃ w : Int64, v = .inl (some (.long w))) := by
                intro n42
                induction n42 using Nat.strongRecOn with
                | ind n42 ih42 =>
                  intro k42_5 k42_7 k42_7a k42_7b hm42
                  refine pw_ld E (pc' := 44) (st' := [pw_i k42_7]) rfl (fun _ => rfl) ?_
                  refine pw_bip E (pc' := 46) rfl rfl (by decide) ?_
                  refine pw_if2 E (pc' := 103) rfl (by decide) (by omega) (by omega) (by decide) (by decide) ?_ ?_
                  · intro hc20
                    change (24 : Int) ≤ k42_7 at hc20
                    refine pw_ld E (pc' := 105) (st' := [.long k42_5]) rfl (fun _ => rfl) ?_
                    refine pw_lret E rfl ?_
                    exact ⟨h19I, h19F, ⟨_, rfl⟩⟩
                  · intro hc21
                    change ¬ ((24 : Int) ≤ k42_7) at hc21
                    refine pw_ld E (pc' := 50) (st' := [.ref 141]) rfl (fun _ => rfl) ?_
                    have he23 : pw_g h19 125 0 = 0 := by rw [← h19w]; exact pw_g_eq (c := 125) (k := 0) I rfl rfl (by omega) (by omega)
                    refine pw_getI2 h19I E (c := 125) (k := 0) (pc' := 53) rfl rfl rfl rfl rfl rfl (fun hf22a hf22b => ?_)
                    refine pw_if E (pc' := 103) rfl (by decide) (by omega) (by omega) ?_ ?_
                    · intro hc24
                      change pw_g h19 125 0 ≠ (0 : Int) at hc24
                      exfalso; omega
                    · intro hc25
                      change ¬ (pw_g h19 125 0 ≠ (0 : Int)) at hc25
                      refine pw_ld E (pc' := 58) (st' := [.long k42_5]) rfl (fun _ => rfl) ?_
                      refine pw_ld E (pc' := 59) (st' := [.ref 141, .long k42_5]) rfl (fun _ => rfl) ?_
                      refine pw_ld E (pc' := 61) (st' := [pw_i k42_7, .ref 141, .long k42_5]) rfl (fun _ => rfl) ?_
                      refine pw_ld E (pc' := 62) (st' := [pw_i b, pw_i k42_7, .ref 141, .long k42_5]) rfl (fun _ => rfl) ?_
                      refine pw_ld E (pc' := 63) (st' := [pw_i e, pw_i b, pw_i k42_7, .ref 141, .long k42_5]) rfl (fun _ => rfl) ?_
                      obtain ⟨f26l, f26h, -⟩ := pw_obj (c := 125) h19I rfl
                      refine pw_call (m' := 214) (As := [.ref 141, pw_i k42_7, pw_i b, pw_i e]) (rest := [.long k42_5]) (ls'' := [some (.ref 141), some (pw_i k42_7), some (pw_i b), some (pw_i e)]) (Nat.le_trans (by decide) hd) E rfl (fun _ => pw_iV rfl rfl rfl rfl (pw_cellI f26h rfl)) (rfl : pm_ent 214 = some (4, 4, 12, 1, pmc_214)) rfl rfl (cm_214 (pw_dp hd (by decide)) h19I (k42_7) (by omega) (by omega) (b) (by omega) (by omega) (e) (by omega) (by omega)) ?_
                      rintro u28 v27 ⟨rfl, x29, rfl, hx29a, hx29b⟩
                      refine ⟨_, rfl, ?_⟩
                      show pw X d h19 292 66 [some (.ref 141), some (pw_i bk), some (pw_i b), some (pw_i e), some (pw_i wt), some (.long k42_5), none, some (pw_i k42_7)] [pw_i x29, .long k42_5] _
                      refine pw_if E (pc' := 93) rfl (by decide) (by omega) (by omega) ?_ ?_
                      · intro hc30
                        change x29 = (0 : Int) at hc30
                        refine pw_ld E (pc' := 94) (st' := [.long (Int64.ofInt 0), .long k42_5]) rfl (fun _ => rfl) ?_
                        refine pw_ld E (pc' := 95) (st' := [.long (k42_5 + (Int64.ofInt 0))]) rfl (fun _ => rfl) ?_
                        refine pw_lst E (pc' := 97) (ls' := [some (.ref 141), some (pw_i bk), some (pw_i b), some (pw_i e), some (pw_i wt), some (.long (k42_5 + (Int64.ofInt 0))), none, some (pw_i k42_7)]) rfl rfl rfl rfl ?_
                        refine pw_inc E (pc' := 100) (ls' := [some (.ref 141), some (pw_i bk), some (pw_i b), some (pw_i e), some (pw_i wt), some (.long (k42_5 + (Int64.ofInt 0))), none, some (pw_i (k42_7 + 1))]) rfl rfl rfl rfl ?_
                        refine pw_goto E (pc' := 42) rfl (by decide) ?_
                        exact ih42 _ (by omega) (k42_5 + (Int64.ofInt 0)) (k42_7 + 1)  (by omega) (by omega)  rfl
                      · intro hc31
                        change ¬ (x29 = (0 : Int)) at hc31
                        refine pw_ld E (pc' := 70) (st' := [.ref 141, .long k42_5]) rfl (fun _ => rfl) ?_
                        refine pw_getR (b := 148) h19I E (c := 125) (k := 11) (pc' := 73) rfl rfl rfl rfl rfl rfl rfl ?_
                        refine pw_ld E (pc' := 75) (st' := [pw_i k42_7, .ref 148, .long k42_5]) rfl (fun _ => rfl) ?_
                        refine pw_ald2 h19I E (c := 132) (pc' := 76) rfl rfl rfl (by decide) rfl (by decide) (by omega) (by omega) rfl (fun hf32a hf32b => ?_)
                        refine pw_ld E (pc' := 77) (st' := [pw_i bk, pw_i (pw_g h19 132 (k42_7.toNat)), .long k42_5]) rfl (fun _ => rfl) ?_
                        refine pw_if2 E (pc' := 93) rfl (by decide) (by omega) (by omega) (by omega) (by omega) ?_ ?_
                        · intro hc33
                          change pw_g h19 132 (k42_7.toNat) ≠ bk at hc33
                          refine pw_ld E (pc' := 94) (st' := [.long (Int64.ofInt 0), .long k42_5]) rfl (fun _ => rfl) ?_
                          refine pw_ld E (pc' := 95) (st' := [.long (k42_5 + (Int64.ofInt 0))]) rfl (fun _ => rfl) ?_
                          refine pw_lst E (pc' := 97) (ls' := [some (.ref 141), some (pw_i bk), some (pw_i b), some (pw_i e), some (pw_i wt), some (.long (k42_5 + (Int64.ofInt 0))), none, some (pw_i k42_7)]) rfl rfl rfl rfl ?_
                          refine pw_inc E (pc' := 100) (ls' := [some (.ref 141), some (pw_i bk), some (pw_i b), some (pw_i e), some (pw_i wt), some (.long (k42_5 + (Int64.ofInt 0))), none, some (pw_i (k42_7 + 1))]) rfl rfl rfl rfl ?_
                          refine pw_goto E (pc' := 42) rfl (by decide) ?_
                          exact ih42 _ (by omega) (k42_5 + (Int64.ofInt 0)) (k42_7 + 1)  (by omega) (by omega)  rfl
                        · intro hc34
                          change ¬ (pw_g h19 132 (k42_7.toNat) ≠ bk) at hc34
                          refine pw_ld E (pc' := 81) (st' := [.ref 141, .long k42_5]) rfl (fun _ => rfl) ?_
                          refine pw_ld E (pc' := 83) (st' := [pw_i k42_7, .ref 141, .long k42_5]) rfl (fun _ => rfl) ?_
                          refine pw_ld E (pc' := 84) (st' := [pw_i b, pw_i k42_7, .ref 141, .long k42_5]) rfl (fun _ => rfl) ?_
                          refine pw_ld E (pc' := 85) (st' := [pw_i e, pw_i b, pw_i k42_7, .ref 141, .long k42_5]) rfl (fun _ => rfl) ?_
                          refine pw_ld E (pc' := 87) (st' := [pw_i wt, pw_i e, pw_i b, pw_i k42_7, .ref 141, .long k42_5]) rfl (fun _ => rfl) ?_
                          obtain ⟨f35l, f35h, -⟩ := pw_obj (c := 125) h19I rfl
                          refine pw_call (m' := 293) (As := [.ref 141, pw_i k42_7, pw_i b, pw_i e, pw_i wt]) (rest := [.long k42_5]) (ls'' := [some (.ref 141), some (pw_i k42_7), some (pw_i b), some (pw_i e), some (pw_i wt), none, none, none, none, none, none, none, none]) (Nat.le_trans (by decide) hd) E rfl (fun _ => pw_iV rfl rfl rfl rfl (pw_cellI f35h rfl)) (rfl : pm_ent 293 = some (5, 13, 12, 2, pmc_293)) rfl rfl (cm_293 (pw_dp hd (by decide)) h19I (k42_7) (by omega) (by omega) (b) (by omega) (by omega) (e) (by omega) (by omega) (wt) (by omega) (by omega)) ?_
                          rintro u37 v36 ⟨rfl, w38, rfl⟩
                          refine ⟨_, rfl, ?_⟩
                          show pw X d h19 292 90 [some (.ref 141), some (pw_i bk), some (pw_i b), some (pw_i e), some (pw_i wt), some (.long k42_5), none, some (pw_i k42_7)] [.long w38, .long k42_5] _
                          refine pw_goto E (pc' := 94) rfl (by decide) ?_
                          refine pw_ld E (pc' := 95) (st' := [.long (k42_5 + w38)]) rfl (fun _ => rfl) ?_
                          refine pw_lst E (pc' := 97) (ls' := [some (.ref 141), some (pw_i bk), some (pw_i b), some (pw_i e), some (pw_i wt), some (.long (k42_5 + w38)), none, some (pw_i k42_7)]) rfl rfl rfl rfl ?_
                          refine pw_inc E (pc' := 100) (ls' := [some (.ref 141), some (pw_i bk), some (pw_i b), some (pw_i e), some (pw_i wt), some (.long (k42_5 + w38)), none, some (pw_i (k42_7 + 1))]) rfl rfl rfl rfl ?_
                          refine pw_goto E (pc' := 42) rfl (by decide) ?_
                          exact ih42 _ (by omega) (k42_5 + w38) (k42_7 + 1)  (by omega) (by omega)  rfl
              exact L42 _ (Int64.ofInt 0) (0)  (by omega) (by omega)  rfl
          · skip
            refine pw_if E (pc' := 32) rfl (by decide) (by omega) (by omega) ?_ ?_
            · intro hc40
              change x15 = (0 : Int) at hc40
              refine pw_ld E (pc' := 33) (st' := [pw_i 1, .ref 141]) rfl (fun _ => rfl) ?_
              refine pw_putI I E (c := 125) (k := 0) (pc' := 36) rfl rfl rfl rfl (by omega) (by omega) (by omega) (by omega) rfl rfl ?_
              intro h41I h41E
              generalize h41w : pw_w h 125 0 (pw_i 1) = h41 at h41I h41E ⊢
              have h41F := E0.tr (h41E.wk (W' := [125]) (by first | rfl | simp))
              refine pw_ld E (pc' := 37) (st' := [.long (Int64.ofInt 0)]) rfl (fun _ => rfl) ?_
              refine pw_lst E (pc' := 39) (ls' := [some (.ref 141), some (pw_i bk), some (pw_i b), some (pw_i e), some (pw_i wt), some (.long (Int64.ofInt 0)), none, none]) rfl rfl rfl rfl ?_
              refine pw_ld E (pc' := 40) (st' := [pw_i 0]) rfl (fun _ => rfl) ?_
              refine pw_ist E (pc' := 42) (ls' := [some (.ref 141), some (pw_i bk), some (pw_i b), some (pw_i e), some (pw_i wt), some (.long (Int64.ofInt 0)), none, some (pw_i 0)]) rfl rfl rfl rfl ?_
              have L42 : ∀ (n42 : Nat) (k42_5 : Int64) (k42_7 : Int), 0 ≤ k42_7 → k42_7 ≤ 24 → (24 - k42_7).toNat = n42 → pw X d h41 292 42 [some (.ref 141), some (pw_i bk), some (pw_i b), some (pw_i e), some (pw_i wt), some (.long k42_5), none, some (pw_i k42_7)] [] (fun h' v => pw_I h' ∧ pw_E [125] h h' ∧ ∃ w : Int64, v = .inl (some (.long w))) := by
                intro n42
                induction n42 using Nat.strongRecOn with
                | ind n42 ih42 =>
                  intro k42_5 k42_7 k42_7a k42_7b hm42
                  refine pw_ld E (pc' := 44) (st' := [pw_i k42_7]) rfl (fun _ => rfl) ?_
                  refine pw_bip E (pc' := 46) rfl rfl (by decide) ?_
                  refine pw_if2 E (pc' := 103) rfl (by decide) (by omega) (by omega) (by decide) (by decide) ?_ ?_
                  · intro hc42
                    change (24 : Int) ≤ k42_7 at hc42
                    refine pw_ld E (pc' := 105) (st' := [.long k42_5]) rfl (fun _ => rfl) ?_
                    refine pw_lret E rfl ?_
                    exact ⟨h41I, h41F, ⟨_, rfl⟩⟩
                  · intro hc43
                    change ¬ ((24 : Int) ≤ k42_7) at hc43
                    refine pw_ld E (pc' := 50) (st' := [.ref 141]) rfl (fun _ => rfl) ?_
                    have he45 : pw_g h41 125 0 = 1 := by rw [← h41w]; exact pw_g_eq (c := 125) (k := 0) I rfl rfl (by omega) (by omega)
                    refine pw_getI2 h41I E (c := 125) (k := 0) (pc' := 53) rfl rfl rfl rfl rfl rfl (fun hf44a hf44b => ?_)
                    refine pw_if E (pc' := 103) rfl (by decide) (by omega) (by omega) ?_ ?_
                    · intro hc46
                      change pw_g h41 125 0 ≠ (0 : Int) at hc46
                      refine pw_ld E (pc' := 105) (st' := [.long k42_5]) rfl (fun _ => rfl) ?_
                      refine pw_lret E rfl ?_
                      exact ⟨h41I, h41F, ⟨_, rfl⟩⟩
                    · intro hc47
                      change ¬ (pw_g h41 125 0 ≠ (0 : Int)) at hc47
                      exfalso; omega
              exact L42 _ (Int64.ofInt 0) (0)  (by omega) (by omega)  rfl
            · intro hc48
              change ¬ (x15 = (0 : Int)) at hc48
              exfalso; omega
      · skip
        refine pw_if E (pc' := 32) rfl (by decide) (by omega) (by omega) ?_ ?_
        · intro hc50
          change x9 = (0 : Int) at hc50
          refine pw_ld E (pc' := 33) (st' := [pw_i 1, .ref 141]) rfl (fun _ => rfl) ?_
          refine pw_putI I E (c := 125) (k := 0) (pc' := 36) rfl rfl rfl rfl (by omega) (by omega) (by omega) (by omega) rfl rfl ?_
          intro h51I h51E
          generalize h51w : pw_w h 125 0 (pw_i 1) = h51 at h51I h51E ⊢
          have h51F := E0.tr (h51E.wk (W' := [125]) (by first | rfl | simp))
          refine pw_ld E (pc' := 37) (st' := [.long (Int64.ofInt 0)]) rfl (fun _ => rfl) ?_
          refine pw_lst E (pc' := 39) (ls' := [some (.ref 141), some (pw_i bk), some (pw_i b), some (pw_i e), some (pw_i wt), some (.long (Int64.ofInt 0)), none, none]) rfl rfl rfl rfl ?_
          refine pw_ld E (pc' := 40) (st' := [pw_i 0]) rfl (fun _ => rfl) ?_
          refine pw_ist E (pc' := 42) (ls' := [some (.ref 141), some (pw_i bk), some (pw_i b), some (pw_i e), some (pw_i wt), some (.long (Int64.ofInt 0)), none, some (pw_i 0)]) rfl rfl rfl rfl ?_
          have L42 : ∀ (n42 : Nat) (k42_5 : Int64) (k42_7 : Int), 0 ≤ k42_7 → k42_7 ≤ 24 → (24 - k42_7).toNat = n42 → pw X d h51 292 42 [some (.ref 141), some (pw_i bk), some (pw_i b), some (pw_i e), some (pw_i wt), some (.long k42_5), none, some (pw_i k42_7)] [] (fun h' v => pw_I h' ∧ pw_E [125] h h' ∧ ∃ w : Int64, v = .inl (some (.long w))) := by
            intro n42
            induction n42 using Nat.strongRecOn with
            | ind n42 ih42 =>
              intro k42_5 k42_7 k42_7a k42_7b hm42
              refine pw_ld E (pc' := 44) (st' := [pw_i k42_7]) rfl (fun _ => rfl) ?_
              refine pw_bip E (pc' := 46) rfl rfl (by decide) ?_
              refine pw_if2 E (pc' := 103) rfl (by decide) (by omega) (by omega) (by decide) (by decide) ?_ ?_
              · intro hc52
                change (24 : Int) ≤ k42_7 at hc52
                refine pw_ld E (pc' := 105) (st' := [.long k42_5]) rfl (fun _ => rfl) ?_
                refine pw_lret E rfl ?_
                exact ⟨h51I, h51F, ⟨_, rfl⟩⟩
              · intro hc53
                change ¬ ((24 : Int) ≤ k42_7) at hc53
                refine pw_ld E (pc' := 50) (st' := [.ref 141]) rfl (fun _ => rfl) ?_
                have he55 : pw_g h51 125 0 = 1 := by rw [← h51w]; exact pw_g_eq (c := 125) (k := 0) I rfl rfl (by omega) (by omega)
                refine pw_getI2 h51I E (c := 125) (k := 0) (pc' := 53) rfl rfl rfl rfl rfl rfl (fun hf54a hf54b => ?_)
                refine pw_if E (pc' := 103) rfl (by decide) (by omega) (by omega) ?_ ?_
                · intro hc56
                  change pw_g h51 125 0 ≠ (0 : Int) at hc56
                  refine pw_ld E (pc' := 105) (st' := [.long k42_5]) rfl (fun _ => rfl) ?_
                  refine pw_lret E rfl ?_
                  exact ⟨h51I, h51F, ⟨_, rfl⟩⟩
                · intro hc57
                  change ¬ (pw_g h51 125 0 ≠ (0 : Int)) at hc57
                  exfalso; omega
          exact L42 _ (Int64.ofInt 0) (0)  (by omega) (by omega)  rfl
        · intro hc58
          change ¬ (x9 = (0 : Int)) at hc58
          exfalso; omega
  · skip
    refine pw_if E (pc' := 32) rfl (by decide) (by omega) (by omega) ?_ ?_
    · intro hc60
      change x3 = (0 : Int) at hc60
      refine pw_ld E (pc' := 33) (st' := [pw_i 1, .ref 141]) rfl (fun _ => rfl) ?_
      refine pw_putI I E (c := 125) (k := 0) (pc' := 36) rfl rfl rfl rfl (by omega) (by omega) (by omega) (by omega) rfl rfl ?_
      intro h61I h61E
      generalize h61w : pw_w h 125 0 (pw_i 1) = h61 at h61I h61E ⊢
      have h61F := E0.tr (h61E.wk (W' := [125]) (by first | rfl | simp))
      refine pw_ld E (pc' := 37) (st' := [.long (Int64.ofInt 0)]) rfl (fun _ => rfl) ?_
      refine pw_lst E (pc' := 39) (ls' := [some (.ref 141), some (pw_i bk), some (pw_i b), some (pw_i e), some (pw_i wt), some (.long (Int64.ofInt 0)), none, none]) rfl rfl rfl rfl ?_
      refine pw_ld E (pc' := 40) (st' := [pw_i 0]) rfl (fun _ => rfl) ?_
      refine pw_ist E (pc' := 42) (ls' := [some (.ref 141), some (pw_i bk), some (pw_i b), some (pw_i e), some (pw_i wt), some (.long (Int64.ofInt 0)), none, some (pw_i 0)]) rfl rfl rfl rfl ?_
      have L42 : ∀ (n42 : Nat) (k42_5 : Int64) (k42_7 : Int), 0 ≤ k42_7 → k42_7 ≤ 24 → (24 - k42_7).toNat = n42 → pw X d h61 292 42 [some (.ref 141), some (pw_i bk), some (pw_i b), some (pw_i e), some (pw_i wt), some (.long k42_5), none, some (pw_i k42_7)] [] (fun h' v => pw_I h' ∧ pw_E [125] h h' ∧ ∃ w : Int64, v = .inl (some (.long w))) := by
        intro n42
        induction n42 using Nat.strongRecOn with
        | ind n42 ih42 =>
          intro k42_5 k42_7 k42_7a k42_7b hm42
          refine pw_ld E (pc' := 44) (st' := [pw_i k42_7]) rfl (fun _ => rfl) ?_
          refine pw_bip E (pc' := 46) rfl rfl (by decide) ?_
          refine pw_if2 E (pc' := 103) rfl (by decide) (by omega) (by omega) (by decide) (by decide) ?_ ?_
          · intro hc62
            change (24 : Int) ≤ k42_7 at hc62
            refine pw_ld E (pc' := 105) (st' := [.long k42_5]) rfl (fun _ => rfl) ?_
            refine pw_lret E rfl ?_
            exact ⟨h61I, h61F, ⟨_, rfl⟩⟩
          · intro hc63
            change ¬ ((24 : Int) ≤ k42_7) at hc63
            refine pw_ld E (pc' := 50) (st' := [.ref 141]) rfl (fun _ => rfl) ?_
            have he65 : pw_g h61 125 0 = 1 := by rw [← h61w]; exact pw_g_eq (c := 125) (k := 0) I rfl rfl (by omega) (by omega)
            refine pw_getI2 h61I E (c := 125) (k := 0) (pc' := 53) rfl rfl rfl rfl rfl rfl (fun hf64a hf64b => ?_)
            refine pw_if E (pc' := 103) rfl (by decide) (by omega) (by omega) ?_ ?_
            · intro hc66
              change pw_g h61 125 0 ≠ (0 : Int) at hc66
              refine pw_ld E (pc' := 105) (st' := [.long k42_5]) rfl (fun _ => rfl) ?_
              refine pw_lret E rfl ?_
              exact ⟨h61I, h61F, ⟨_, rfl⟩⟩
            · intro hc67
              change ¬ (pw_g h61 125 0 ≠ (0 : Int)) at hc67
              exfalso; omega
      exact L42 _ (Int64.ofInt 0) (0)  (by omega) (by omega)  rfl
    · intro hc68
      change ¬ (x3 = (0 : Int)) at hc68
      exfalso; omega

