/-! the model (printed by wip/tool/mall.py) -/
def pw_C252 (X : List (Nat × List Value)) (dp : Int) : Prop := ∀ {d : Nat} {h : pm_H} {n : Nat}, (28 - 5 * dp : Int) ≤ d → pw_I h → pw_A n h → pw_g h 125 32 ≤ pw_g h 125 7 → pw X d h 252 0 [some (.ref 141), some (pw_i dp), none, none] [] (fun h' v => pw_I h' ∧ pw_E [125, 146, 147] h h' ∧ (pw_A n h' ∧ pw_R 0 0 1 h h') ∧ (v = .inl none))
def pw_C251 (X : List (Nat × List Value)) (dp : Int) : Prop := ∀ {d : Nat} {h : pm_H} {n : Nat}, (29 - 5 * dp : Int) ≤ d → pw_I h → pw_A n h → pw_g h 125 32 ≤ pw_g h 125 7 → pw X d h 251 0 [some (.ref 141), some (pw_i dp)] [] (fun h' v => pw_I h' ∧ pw_E [125, 146, 147] h h' ∧ (pw_A n h' ∧ pw_R 0 0 1 h h') ∧ (v = .inl none))
def pw_C250 (X : List (Nat × List Value)) (dp : Int) : Prop := ∀ {d : Nat} {h : pm_H} {n : Nat}, (30 - 5 * dp : Int) ≤ d → pw_I h → pw_A n h → pw_g h 125 32 ≤ pw_g h 125 7 → pw X d h 250 0 [some (.ref 141), some (pw_i dp), none] [] (fun h' v => pw_I h' ∧ pw_E [125, 146, 147] h h' ∧ (pw_A n h' ∧ pw_R 0 0 1 h h') ∧ (v = .inl none))
def pw_C249 (X : List (Nat × List Value)) (dp : Int) : Prop := ∀ {d : Nat} {h : pm_H} {n : Nat}, (31 - 5 * dp : Int) ≤ d → pw_I h → pw_A n h → pw_g h 125 32 ≤ pw_g h 125 7 → pw X d h 249 0 [some (.ref 141), some (pw_i dp), none] [] (fun h' v => pw_I h' ∧ pw_E [125, 146, 147] h h' ∧ (pw_A n h' ∧ pw_R 0 0 1 h h') ∧ (v = .inl none))
def pw_C248 (X : List (Nat × List Value)) (dp : Int) : Prop := ∀ {d : Nat} {h : pm_H} {n : Nat}, (32 - 5 * dp : Int) ≤ d → pw_I h → pw_A n h → pw_g h 125 32 ≤ pw_g h 125 7 → pw X d h 248 0 [some (.ref 141), some (pw_i dp), none] [] (fun h' v => pw_I h' ∧ pw_E [125, 146, 147] h h' ∧ (pw_A n h' ∧ pw_R 0 0 1 h h') ∧ (v = .inl none))
set_option maxHeartbeats 4000000 in
theorem cm_252 {X : List (Nat × List Value)} (dp : Int) (hdp1 : 0 ≤ dp) (hdp2 : dp ≤ 5) (hT : dp ≤ 4 → pw_C252 X (dp + 1) ∧ pw_C248 X (dp + 1)) {d : Nat} {h : pm_H} (hd : (28 - 5 * dp : Int) ≤ d) (I : pw_I h) {n : Nat} (A : pw_A n h) (hs : pw_g h 125 32 ≤ pw_g h 125 7) : pw X d h 252 0 [some (.ref 141), some (pw_i dp), none, none] [] (fun h' v => pw_I h' ∧ pw_E [125, 146, 147] h h' ∧ (pw_A n h' ∧ pw_R 0 0 1 h h') ∧ (v = .inl none)) := by
  have E : pm_ent 252 = some (2, 4, 12, 4, pmc_252) := rfl
  have E0 : pw_E [125, 146, 147] h h := pw_E.rf _ _
  have R0 : pw_R 0 0 0 h h := pw_R.rf A.2.2.2.2.2
  have hn1 : n ≤ 1000 := A.1
  have hA1 : pw_g h 125 7 ≤ n ∧ 0 ≤ pw_g h 125 8 ∧ 0 ≤ pw_g h 125 7 ∧ 0 ≤ pw_g h 125 32 := A.2.2
  refine pw_ld E (pc' := 1) (st' := [.ref 141]) rfl (fun _ => rfl) ?_
  refine pw_getI2 I E (c := 125) (k := 8) (pc' := 4) rfl rfl rfl rfl rfl rfl (fun hf2a hf2b => ?_)
  refine pw_if E (pc' := 8) rfl (by decide) (by omega) (by omega) ?_ ?_
  · intro hc3
    change pw_g h 125 8 ≤ (0 : Int) at hc3
    refine pw_ld E (pc' := 9) (st' := [.ref 141]) rfl (fun _ => rfl) ?_
    obtain ⟨f4l, f4h, -⟩ := pw_obj (c := 125) I rfl
    refine pw_call (m' := 253) (As := [.ref 141]) (rest := []) (ls'' := [some (.ref 141), none, none]) (by omega) E rfl (fun _ => pw_iV rfl rfl rfl rfl (pw_cellI f4h rfl)) (rfl : pm_ent 253 = some (1, 3, 12, 0, pmc_253)) rfl rfl (cm_253 (by omega) I ) ?_
    rintro u6 v5 ⟨rfl, x7, rfl, hx7a, hx7b, hx7r⟩
    refine ⟨_, rfl, ?_⟩
    show pw X d h 252 12 [some (.ref 141), some (pw_i dp), none, none] [pw_i x7] _
    change x7 < 0 ∨ (0 ≤ x7 ∧ x7 ≤ 9 ∧ pw_g h 127 (pw_g h 125 7).toNat = 1) at hx7r
    refine pw_istn E (pc' := 13) (ls' := [some (.ref 141), some (pw_i dp), some (pw_i x7), none]) rfl rfl rfl rfl ?_
    refine pw_ld E (pc' := 14) (st' := [.ref 141]) rfl (fun _ => rfl) ?_
    refine pw_getR (b := 143) I E (c := 125) (k := 4) (pc' := 17) rfl rfl rfl rfl rfl rfl rfl ?_
    refine pw_ld E (pc' := 18) (st' := [.ref 141, .ref 143]) rfl (fun _ => rfl) ?_
    refine pw_getI2 I E (c := 125) (k := 7) (pc' := 21) rfl rfl rfl rfl rfl rfl (fun hf8a hf8b => ?_)
    refine pw_ald2 I E (c := 127) (pc' := 22) rfl rfl rfl (by decide) rfl (by decide) (by omega) (by omega) rfl (fun hf9a hf9b => ?_)
    refine pw_ld E (pc' := 23) (st' := [pw_i 2, pw_i (pw_g h 127 ((pw_g h 125 7).toNat))]) rfl (fun _ => rfl) ?_
    refine pw_if2 E (pc' := 30) rfl (by decide) (by omega) (by omega) (by decide) (by decide) ?_ ?_
    · intro hc10
      change pw_g h 127 ((pw_g h 125 7).toNat) ≠ (2 : Int) at hc10
      refine pw_ld E (pc' := 31) (st' := [pw_i 0]) rfl (fun _ => rfl) ?_
      refine pw_istn E (pc' := 32) (ls' := [some (.ref 141), some (pw_i dp), some (pw_i x7), some (pw_i 0)]) rfl rfl rfl rfl ?_
      refine pw_ld E (pc' := 33) (st' := [pw_i x7]) rfl (fun _ => rfl) ?_
      refine pw_if E (pc' := 66) rfl (by decide) (by omega) (by omega) ?_ ?_
      · intro hc11
        change (0 : Int) ≤ x7 at hc11
        refine pw_ld E (pc' := 67) (st' := [pw_i dp]) rfl (fun _ => rfl) ?_
        refine pw_ld E (pc' := 68) (st' := [pw_i 5, pw_i dp]) rfl (fun _ => rfl) ?_
        refine pw_if2 E (pc' := 76) rfl (by decide) (by omega) (by omega) (by decide) (by decide) ?_ ?_
        · intro hc12
          change dp ≠ (5 : Int) at hc12
          refine pw_ld E (pc' := 77) (st' := [.ref 141]) rfl (fun _ => rfl) ?_
          refine pw_getI2 I E (c := 125) (k := 8) (pc' := 80) rfl rfl rfl rfl rfl rfl (fun hf13a hf13b => ?_)
          refine pw_if E (pc' := 84) rfl (by decide) (by omega) (by omega) ?_ ?_
          · intro hc14
            change pw_g h 125 8 ≤ (0 : Int) at hc14
            refine pw_ld E (pc' := 85) (st' := [.ref 141]) rfl (fun _ => rfl) ?_
            refine pw_bip E (pc' := 87) rfl rfl (by decide) ?_
            obtain ⟨f15l, f15h, -⟩ := pw_obj (c := 125) I rfl
            refine pw_call (m' := 247) (As := [.ref 141, pw_i 7]) (rest := []) (ls'' := [some (.ref 141), some (pw_i 7), none]) (by omega) E rfl (fun _ => pw_iV rfl rfl rfl rfl (pw_cellI f15h rfl)) (rfl : pm_ent 247 = some (2, 3, 12, 1, pmc_247)) rfl rfl (cm_247 (by omega) I A (7) (by omega) (by omega)) ?_
            rintro h16 v17 ⟨x18, rfl, x18a, ⟨x18b, h16c⟩ | ⟨x18b, h16I, h16E, h16A, h16R, h167⟩⟩
            · refine ⟨_, rfl, ?_⟩
              subst h16c
              change x18 = pw_wd h 7 at x18a
              change x18 = 0 at x18b
              show pw X d h 252 90 [some (.ref 141), some (pw_i dp), some (pw_i x7), some (pw_i 0)] [pw_i x18] _
              refine pw_if E (pc' := 109) rfl (by decide) (by omega) (by omega) ?_ ?_
              · intro hc19
                change x18 = (0 : Int) at hc19
                refine pw_ld E (pc' := 110) (st' := [.ref 141]) rfl (fun _ => rfl) ?_
                refine pw_bip E (pc' := 112) rfl rfl (by decide) ?_
                obtain ⟨f20l, f20h, -⟩ := pw_obj (c := 125) I rfl
                refine pw_call (m' := 256) (As := [.ref 141, pw_i 40]) (rest := []) (ls'' := [some (.ref 141), some (pw_i 40), none]) (by omega) E rfl (fun _ => pw_iV rfl rfl rfl rfl (pw_cellI f20h rfl)) (rfl : pm_ent 256 = some (2, 3, 12, 1, pmc_256)) rfl rfl (cm_256 (by omega) I A (40) (by omega) (by omega)) ?_
                rintro h21 v22 ⟨x23, rfl, x23a, ⟨x23b, h21c⟩ | ⟨x23b, h21I, h21E, h21A, h21R, h217⟩⟩
                · refine ⟨_, rfl, ?_⟩
                  subst h21c
                  change x23 = pw_sg h 40 at x23a
                  change x23 = 0 at x23b
                  show pw X d h 252 115 [some (.ref 141), some (pw_i dp), some (pw_i x7), some (pw_i 0)] [pw_i x23] _
                  refine pw_if E (pc' := 134) rfl (by decide) (by omega) (by omega) ?_ ?_
                  · intro hc24
                    change x23 = (0 : Int) at hc24
                    refine pw_ld E (pc' := 135) (st' := [.ref 141]) rfl (fun _ => rfl) ?_
                    refine pw_ld E (pc' := 136) (st' := [pw_i 0, .ref 141]) rfl (fun _ => rfl) ?_
                    refine pw_if E (pc' := 143) rfl (by decide) (by decide) (by decide) ?_ ?_
                    · intro hc25
                      change (0 : Int) = (0 : Int) at hc25
                      refine pw_ld E (pc' := 144) (st' := [pw_i 2, .ref 141]) rfl (fun _ => rfl) ?_
                      refine pw_ld E (pc' := 145) (st' := [pw_i 0, pw_i 2, .ref 141]) rfl (fun _ => rfl) ?_
                      refine pw_if E (pc' := 161) rfl (by decide) (by decide) (by decide) ?_ ?_
                      · intro hc26
                        change (0 : Int) = (0 : Int) at hc26
                        refine pw_ld E (pc' := 162) (st' := [pw_i x7, pw_i 2, .ref 141]) rfl (fun _ => rfl) ?_
                        obtain ⟨f27l, f27h, -⟩ := pw_obj (c := 125) I rfl
                        refine pw_call (m' := 255) (As := [.ref 141, pw_i 2, pw_i x7]) (rest := []) (ls'' := [some (.ref 141), some (pw_i 2), some (pw_i x7)]) (by omega) E rfl (fun _ => pw_iV rfl rfl rfl rfl (pw_cellI f27h rfl)) (rfl : pm_ent 255 = some (3, 3, 12, 4, pmc_255)) rfl rfl (cm_255 (by omega) I A (by omega) (2) (by omega) (by omega) (x7) (by omega) (by omega)) ?_
                        rintro h28 v29 ⟨h28I, h28E, ⟨h288, h287, h28c, h28o, h28g, h28u⟩, rfl⟩
                        refine ⟨_, rfl, ?_⟩
                        have h28F := E0.tr (h28E.wk (W' := [125, 146, 147]) (by first | rfl | simp))
                        show pw X d h28 252 165 [some (.ref 141), some (pw_i dp), some (pw_i x7), some (pw_i 0)] [] _
                        have h28A : pw_A n h28 := ⟨hn1, by rw [pw_Eg (c := 127) I h28E rfl rfl]; exact A.2.1, by omega, by omega, by omega, by omega⟩
                        have h28R : pw_R (-1) 0 1 h h28 := pw_R.emit (c := 2) (Or.inl ⟨rfl, rfl, Or.inr ⟨rfl, by omega, by omega⟩⟩) (by omega) (by omega) h288 h287 h28c h28o h28u
                        have R30 : pw_R (-1) 0 1 h h28 := R0.tr (h28R : pw_R (-1) 0 1 h h28) (by decide) (by decide) (by decide)
                        have hA31 : pw_g h28 125 7 ≤ n ∧ 0 ≤ pw_g h28 125 8 ∧ 0 ≤ pw_g h28 125 7 ∧ 0 ≤ pw_g h28 125 32 := h28A.2.2
                        have hA32 : pw_g h 125 7 - pw_g h 125 32 + (-1) ≤ pw_g h28 125 7 - pw_g h28 125 32 := R30.1.2.2.2.1
                        have hA33 : pw_g h 125 7 ≤ pw_g h28 125 7 := h28R.1.2.1
                        have hA33z : pw_g h28 125 8 = 0 → pw_g h 125 8 = 0 := h28R.1.1
                        refine pw_ld E (pc' := 166) (st' := [.ref 141]) rfl (fun _ => rfl) ?_
                        refine pw_ld E (pc' := 167) (st' := [.ref 141, .ref 141]) rfl (fun _ => rfl) ?_
                        refine pw_getI2 h28I E (c := 125) (k := 7) (pc' := 170) rfl rfl rfl rfl rfl rfl (fun hf34a hf34b => ?_)
                        refine pw_ld E (pc' := 171) (st' := [pw_i 1, pw_i (pw_g h28 125 7), .ref 141]) rfl (fun _ => rfl) ?_
                        refine pw_add E (pc' := 172) rfl rfl ?_
                        have hlt35 : (pw_g h28 125 7) + 1 ≤ 1001 ∧ (pw_g h28 125 7) + 1 ≤ n := by first | omega | (have := pw_A.lt h28A (by omega); omega) | (have := pw_A.lt A (by omega); omega)
                        refine pw_putI h28I E (c := 125) (k := 7) (pc' := 175) rfl rfl rfl rfl (by omega) (by omega) (by omega) (by omega) rfl rfl ?_
                        intro h36I h36E
                        generalize h36w : pw_w h28 125 7 (pw_i ((pw_g h28 125 7) + 1)) = h36 at h36I h36E ⊢
                        have h36F := h28F.tr (h36E.wk (W' := [125, 146, 147]) (by first | rfl | simp))
                        have h367 : pw_g h36 125 7 = pw_g h28 125 7 + 1 := by rw [← h36w]; exact pw_g_eq (c := 125) (k := 7) h28I rfl rfl (by omega) (by omega)
                        have h368 : pw_g h36 125 8 = pw_g h28 125 8 := by rw [← h36w]; exact pw_g_ne (by omega)
                        have h369 : pw_g h36 125 32 = pw_g h28 125 32 := by rw [← h36w]; exact pw_g_ne (by omega)
                        have h36A : pw_A n h36 := ⟨hn1, by rw [← h36w, pw_g_ne (by omega)]; exact h28A.2.1, by omega, by omega, by omega, by omega⟩
                        have h36R : pw_R 1 0 0 h28 h36 := pw_R.same (by decide) (by omega) (by omega) h367 h369 (fun j => by rw [← h36w]; exact pw_g_ne (by omega)) (fun j => by rw [← h36w]; exact pw_g_ne (by omega))
                        have R37 : pw_R 0 0 1 h h36 := R30.tr (h36R : pw_R 1 0 0 h28 h36) (by decide) (by decide) (by decide)
                        have hA38 : pw_g h36 125 7 ≤ n ∧ 0 ≤ pw_g h36 125 8 ∧ 0 ≤ pw_g h36 125 7 ∧ 0 ≤ pw_g h36 125 32 := h36A.2.2
                        have hA39 : pw_g h 125 7 - pw_g h 125 32 + 0 ≤ pw_g h36 125 7 - pw_g h36 125 32 := R37.1.2.2.2.1
                        have hA40 : pw_g h28 125 7 ≤ pw_g h36 125 7 := h36R.1.2.1
                        have hA40z : pw_g h36 125 8 = 0 → pw_g h28 125 8 = 0 := h36R.1.1
                        refine pw_vret E rfl ?_
                        exact ⟨h36I, h36F, ⟨h36A, R37.wk (by decide)⟩, rfl⟩
                      · intro hc41
                        change ¬ ((0 : Int) = (0 : Int)) at hc41
                        exfalso; omega
                    · intro hc42
                      change ¬ ((0 : Int) = (0 : Int)) at hc42
                      exfalso; omega
                  · intro hc43
                    change ¬ (x23 = (0 : Int)) at hc43
                    exfalso; omega
                · refine ⟨_, rfl, ?_⟩
                  have h21F := E0.tr (h21E.wk (W' := [125, 146, 147]) (by first | rfl | simp))
                  change x23 = 1 at x23b
                  have R44 : pw_R 1 0 0 h h21 := R0.tr (h21R : pw_R 1 0 0 h h21) (by decide) (by decide) (by decide)
                  have hA45 : pw_g h21 125 7 ≤ n ∧ 0 ≤ pw_g h21 125 8 ∧ 0 ≤ pw_g h21 125 7 ∧ 0 ≤ pw_g h21 125 32 := h21A.2.2
                  have hA46 : pw_g h 125 7 - pw_g h 125 32 + 1 ≤ pw_g h21 125 7 - pw_g h21 125 32 := R44.1.2.2.2.1
                  have hA47 : pw_g h 125 7 ≤ pw_g h21 125 7 := h21R.1.2.1
                  have hA47z : pw_g h21 125 8 = 0 → pw_g h 125 8 = 0 := h21R.1.1
                  show pw X d h21 252 115 [some (.ref 141), some (pw_i dp), some (pw_i x7), some (pw_i 0)] [pw_i x23] _
                  refine pw_if E (pc' := 134) rfl (by decide) (by omega) (by omega) ?_ ?_
                  · intro hc48
                    change x23 = (0 : Int) at hc48
                    exfalso; omega
                  · intro hc49
                    change ¬ (x23 = (0 : Int)) at hc49
                    refine pw_ld E (pc' := 119) (st' := [.ref 141]) rfl (fun _ => rfl) ?_
                    refine pw_ld E (pc' := 120) (st' := [pw_i dp, .ref 141]) rfl (fun _ => rfl) ?_
                    refine pw_ld E (pc' := 121) (st' := [pw_i 1, pw_i dp, .ref 141]) rfl (fun _ => rfl) ?_
                    refine pw_add E (pc' := 122) rfl rfl ?_
                    obtain ⟨f50l, f50h, -⟩ := pw_obj (c := 125) h21I rfl
                    refine pw_call (m' := 248) (As := [.ref 141, pw_i (dp + 1)]) (rest := []) (ls'' := [some (.ref 141), some (pw_i (dp + 1)), none]) (by omega) E rfl (fun _ => pw_iV rfl rfl rfl rfl (pw_cellI f50h rfl)) (rfl : pm_ent 248 = some (2, 3, 12, 4, pmc_248)) rfl rfl ((hT (by omega)).2 (by omega) h21I h21A (by omega)) ?_
                    rintro h51 v52 ⟨h51I, h51E, ⟨h51A, h51R⟩, rfl⟩
                    refine ⟨_, rfl, ?_⟩
                    have h51F := h21F.tr (h51E.wk (W' := [125, 146, 147]) (by first | rfl | simp))
                    show pw X d h51 252 125 [some (.ref 141), some (pw_i dp), some (pw_i x7), some (pw_i 0)] [] _
                    have R53 : pw_R 1 0 1 h h51 := R44.tr (h51R : pw_R 0 0 1 h21 h51) (by decide) (by decide) (by decide)
                    have hA54 : pw_g h51 125 7 ≤ n ∧ 0 ≤ pw_g h51 125 8 ∧ 0 ≤ pw_g h51 125 7 ∧ 0 ≤ pw_g h51 125 32 := h51A.2.2
                    have hA55 : pw_g h 125 7 - pw_g h 125 32 + 1 ≤ pw_g h51 125 7 - pw_g h51 125 32 := R53.1.2.2.2.1
                    have hA56 : pw_g h21 125 7 ≤ pw_g h51 125 7 := h51R.1.2.1
                    have hA56z : pw_g h51 125 8 = 0 → pw_g h21 125 8 = 0 := h51R.1.1
                    refine pw_ld E (pc' := 126) (st' := [.ref 141]) rfl (fun _ => rfl) ?_
                    refine pw_bip E (pc' := 128) rfl rfl (by decide) ?_
                    obtain ⟨f57l, f57h, -⟩ := pw_obj (c := 125) h51I rfl
                    refine pw_call (m' := 257) (As := [.ref 141, pw_i 41]) (rest := []) (ls'' := [some (.ref 141), some (pw_i 41)]) (by omega) E rfl (fun _ => pw_iV rfl rfl rfl rfl (pw_cellI f57h rfl)) (rfl : pm_ent 257 = some (2, 2, 12, 4, pmc_257)) rfl rfl (cm_257 (by omega) h51I h51A (41) (by omega) (by omega)) ?_
                    rintro h58 v59 ⟨h58I, h58E, ⟨h58A, h58R⟩, rfl⟩
                    refine ⟨_, rfl, ?_⟩
                    have h58F := h51F.tr (h58E.wk (W' := [125, 146, 147]) (by first | rfl | simp))
                    show pw X d h58 252 131 [some (.ref 141), some (pw_i dp), some (pw_i x7), some (pw_i 0)] [] _
                    have R60 : pw_R 1 0 1 h h58 := R53.tr (h58R : pw_R 0 0 0 h51 h58) (by decide) (by decide) (by decide)
                    have hA61 : pw_g h58 125 7 ≤ n ∧ 0 ≤ pw_g h58 125 8 ∧ 0 ≤ pw_g h58 125 7 ∧ 0 ≤ pw_g h58 125 32 := h58A.2.2
                    have hA62 : pw_g h 125 7 - pw_g h 125 32 + 1 ≤ pw_g h58 125 7 - pw_g h58 125 32 := R60.1.2.2.2.1
                    have hA63 : pw_g h51 125 7 ≤ pw_g h58 125 7 := h58R.1.2.1
                    have hA63z : pw_g h58 125 8 = 0 → pw_g h51 125 8 = 0 := h58R.1.1
                    refine pw_goto E (pc' := 175) rfl (by decide) ?_
                    refine pw_vret E rfl ?_
                    exact ⟨h58I, h58F, ⟨h58A, R60.wk (by decide)⟩, rfl⟩
              · intro hc64
                change ¬ (x18 = (0 : Int)) at hc64
                exfalso; omega
            · refine ⟨_, rfl, ?_⟩
              have h16F := E0.tr (h16E.wk (W' := [125, 146, 147]) (by first | rfl | simp))
              change x18 = 1 at x18b
              have R65 : pw_R 1 0 0 h h16 := R0.tr (h16R : pw_R 1 0 0 h h16) (by decide) (by decide) (by decide)
              have hA66 : pw_g h16 125 7 ≤ n ∧ 0 ≤ pw_g h16 125 8 ∧ 0 ≤ pw_g h16 125 7 ∧ 0 ≤ pw_g h16 125 32 := h16A.2.2
              have hA67 : pw_g h 125 7 - pw_g h 125 32 + 1 ≤ pw_g h16 125 7 - pw_g h16 125 32 := R65.1.2.2.2.1
              have hA68 : pw_g h 125 7 ≤ pw_g h16 125 7 := h16R.1.2.1
              have hA68z : pw_g h16 125 8 = 0 → pw_g h 125 8 = 0 := h16R.1.1
              show pw X d h16 252 90 [some (.ref 141), some (pw_i dp), some (pw_i x7), some (pw_i 0)] [pw_i x18] _
              refine pw_if E (pc' := 109) rfl (by decide) (by omega) (by omega) ?_ ?_
              · intro hc69
                change x18 = (0 : Int) at hc69
                exfalso; omega
              · intro hc70
                change ¬ (x18 = (0 : Int)) at hc70
                refine pw_ld E (pc' := 94) (st' := [.ref 141]) rfl (fun _ => rfl) ?_
                refine pw_ld E (pc' := 95) (st' := [pw_i dp, .ref 141]) rfl (fun _ => rfl) ?_
                refine pw_ld E (pc' := 96) (st' := [pw_i 1, pw_i dp, .ref 141]) rfl (fun _ => rfl) ?_
                refine pw_add E (pc' := 97) rfl rfl ?_
                obtain ⟨f71l, f71h, -⟩ := pw_obj (c := 125) h16I rfl
                refine pw_call (m' := 252) (As := [.ref 141, pw_i (dp + 1)]) (rest := []) (ls'' := [some (.ref 141), some (pw_i (dp + 1)), none, none]) (by omega) E rfl (fun _ => pw_iV rfl rfl rfl rfl (pw_cellI f71h rfl)) (rfl : pm_ent 252 = some (2, 4, 12, 4, pmc_252)) rfl rfl ((hT (by omega)).1 (by omega) h16I h16A (by omega)) ?_
                rintro h72 v73 ⟨h72I, h72E, ⟨h72A, h72R⟩, rfl⟩
                refine ⟨_, rfl, ?_⟩
                have h72F := h16F.tr (h72E.wk (W' := [125, 146, 147]) (by first | rfl | simp))
                show pw X d h72 252 100 [some (.ref 141), some (pw_i dp), some (pw_i x7), some (pw_i 0)] [] _
                have R74 : pw_R 1 0 1 h h72 := R65.tr (h72R : pw_R 0 0 1 h16 h72) (by decide) (by decide) (by decide)
                have hA75 : pw_g h72 125 7 ≤ n ∧ 0 ≤ pw_g h72 125 8 ∧ 0 ≤ pw_g h72 125 7 ∧ 0 ≤ pw_g h72 125 32 := h72A.2.2
                have hA76 : pw_g h 125 7 - pw_g h 125 32 + 1 ≤ pw_g h72 125 7 - pw_g h72 125 32 := R74.1.2.2.2.1
                have hA77 : pw_g h16 125 7 ≤ pw_g h72 125 7 := h72R.1.2.1
                have hA77z : pw_g h72 125 8 = 0 → pw_g h16 125 8 = 0 := h72R.1.1
                refine pw_ld E (pc' := 101) (st' := [.ref 141]) rfl (fun _ => rfl) ?_
                refine pw_ld E (pc' := 102) (st' := [pw_i 3, .ref 141]) rfl (fun _ => rfl) ?_
                refine pw_ld E (pc' := 103) (st' := [pw_i 0, pw_i 3, .ref 141]) rfl (fun _ => rfl) ?_
                obtain ⟨f78l, f78h, -⟩ := pw_obj (c := 125) h72I rfl
                refine pw_call (m' := 255) (As := [.ref 141, pw_i 3, pw_i 0]) (rest := []) (ls'' := [some (.ref 141), some (pw_i 3), some (pw_i 0)]) (by omega) E rfl (fun _ => pw_iV rfl rfl rfl rfl (pw_cellI f78h rfl)) (rfl : pm_ent 255 = some (3, 3, 12, 4, pmc_255)) rfl rfl (cm_255 (by omega) h72I h72A (by omega) (3) (by omega) (by omega) (0) (by omega) (by omega)) ?_
                rintro h79 v80 ⟨h79I, h79E, ⟨h798, h797, h79c, h79o, h79g, h79u⟩, rfl⟩
                refine ⟨_, rfl, ?_⟩
                have h79F := h72F.tr (h79E.wk (W' := [125, 146, 147]) (by first | rfl | simp))
                show pw X d h79 252 106 [some (.ref 141), some (pw_i dp), some (pw_i x7), some (pw_i 0)] [] _
                have h79A : pw_A n h79 := ⟨hn1, by rw [pw_Eg (c := 127) h72I h79E rfl rfl]; exact h72A.2.1, by omega, by omega, by omega, by omega⟩
                have h79R : pw_R (-1) 1 0 h72 h79 := pw_R.emit (c := 3) (Or.inr (Or.inl ⟨rfl, rfl, rfl⟩)) (by omega) (by omega) h798 h797 h79c h79o h79u
                have R81 : pw_R 0 0 1 h h79 := R74.tr (h79R : pw_R (-1) 1 0 h72 h79) (by decide) (by decide) (by decide)
                have hA82 : pw_g h79 125 7 ≤ n ∧ 0 ≤ pw_g h79 125 8 ∧ 0 ≤ pw_g h79 125 7 ∧ 0 ≤ pw_g h79 125 32 := h79A.2.2
                have hA83 : pw_g h 125 7 - pw_g h 125 32 + 0 ≤ pw_g h79 125 7 - pw_g h79 125 32 := R81.1.2.2.2.1
                have hA84 : pw_g h72 125 7 ≤ pw_g h79 125 7 := h79R.1.2.1
                have hA84z : pw_g h79 125 8 = 0 → pw_g h72 125 8 = 0 := h79R.1.1
                refine pw_goto E (pc' := 175) rfl (by decide) ?_
                refine pw_vret E rfl ?_
                exact ⟨h79I, h79F, ⟨h79A, R81.wk (by decide)⟩, rfl⟩
          · intro hc85
            change ¬ (pw_g h 125 8 ≤ (0 : Int)) at hc85
            exfalso; omega
        · intro hc86
          change ¬ (dp ≠ (5 : Int)) at hc86
          refine pw_ld E (pc' := 72) (st' := [.ref 141]) rfl (fun _ => rfl) ?_
          refine pw_ld E (pc' := 73) (st' := [pw_i 5, .ref 141]) rfl (fun _ => rfl) ?_
          obtain ⟨f87l, f87h, -⟩ := pw_obj (c := 125) I rfl
          refine pw_call (m' := 245) (As := [.ref 141, pw_i 5]) (rest := []) (ls'' := [some (.ref 141), some (pw_i 5)]) (by omega) E rfl (fun _ => pw_iV rfl rfl rfl rfl (pw_cellI f87h rfl)) (rfl : pm_ent 245 = some (2, 2, 12, 4, pmc_245)) rfl rfl (cm_245 (by omega) I A (5) (by omega) (by omega)) ?_
          rintro h88 v89 ⟨h88I, h88E, ⟨h88A, h88R, h88z⟩, rfl⟩
          refine ⟨_, rfl, ?_⟩
          have h88F := E0.tr (h88E.wk (W' := [125, 146, 147]) (by first | rfl | simp))
          show pw X d h88 252 76 [some (.ref 141), some (pw_i dp), some (pw_i x7), some (pw_i 0)] [] _
          change 1 ≤ pw_g h88 125 8 at h88z
          have R90 : pw_R 0 0 0 h h88 := R0.tr (h88R : pw_R 0 0 0 h h88) (by decide) (by decide) (by decide)
          have hA91 : pw_g h88 125 7 ≤ n ∧ 0 ≤ pw_g h88 125 8 ∧ 0 ≤ pw_g h88 125 7 ∧ 0 ≤ pw_g h88 125 32 := h88A.2.2
          have hA92 : pw_g h 125 7 - pw_g h 125 32 + 0 ≤ pw_g h88 125 7 - pw_g h88 125 32 := R90.1.2.2.2.1
          have hA93 : pw_g h 125 7 ≤ pw_g h88 125 7 := h88R.1.2.1
          have hA93z : pw_g h88 125 8 = 0 → pw_g h 125 8 = 0 := h88R.1.1
          refine pw_ld E (pc' := 77) (st' := [.ref 141]) rfl (fun _ => rfl) ?_
          refine pw_getI2 h88I E (c := 125) (k := 8) (pc' := 80) rfl rfl rfl rfl rfl rfl (fun hf94a hf94b => ?_)
          refine pw_if E (pc' := 84) rfl (by decide) (by omega) (by omega) ?_ ?_
          · intro hc95
            change pw_g h88 125 8 ≤ (0 : Int) at hc95
            exfalso; omega
          · intro hc96
            change ¬ (pw_g h88 125 8 ≤ (0 : Int)) at hc96
            refine pw_vret E rfl ?_
            exact ⟨h88I, h88F, ⟨h88A, (R90.wk (by decide)).bad (by omega)⟩, rfl⟩
      · intro hc97
        change ¬ ((0 : Int) ≤ x7) at hc97
        refine pw_ld E (pc' := 37) (st' := [pw_i 0]) rfl (fun _ => rfl) ?_
        refine pw_if E (pc' := 66) rfl (by decide) (by decide) (by decide) ?_ ?_
        · intro hc98
          change (0 : Int) ≠ (0 : Int) at hc98
          exfalso; omega
        · intro hc99
          change ¬ ((0 : Int) ≠ (0 : Int)) at hc99
          refine pw_ld E (pc' := 41) (st' := [.ref 141]) rfl (fun _ => rfl) ?_
          refine pw_bip E (pc' := 43) rfl rfl (by decide) ?_
          obtain ⟨f100l, f100h, -⟩ := pw_obj (c := 125) I rfl
          refine pw_call (m' := 254) (As := [.ref 141, pw_i 40]) (rest := []) (ls'' := [some (.ref 141), some (pw_i 40)]) (by omega) E rfl (fun _ => pw_iV rfl rfl rfl rfl (pw_cellI f100h rfl)) (rfl : pm_ent 254 = some (2, 2, 12, 1, pmc_254)) rfl rfl (cm_254 (by omega) I (40) (by omega) (by omega)) ?_
          rintro u102 v101 ⟨rfl, x103, rfl, hx103a, hx103b, hx103r⟩
          refine ⟨_, rfl, ?_⟩
          show pw X d h 252 46 [some (.ref 141), some (pw_i dp), some (pw_i x7), some (pw_i 0)] [pw_i x103] _
          change x103 = pw_sg h 40 ∧ (x103 = 1 → pw_g h 125 8 = 0 ∧ pw_g h 127 (pw_g h 125 7).toNat = 3) at hx103r
          rcases (by omega : x103 = 1 ∨ x103 = 0) with hb104 | hb104
          · skip
            refine pw_if E (pc' := 66) rfl (by decide) (by omega) (by omega) ?_ ?_
            · intro hc105
              change x103 ≠ (0 : Int) at hc105
              refine pw_ld E (pc' := 67) (st' := [pw_i dp]) rfl (fun _ => rfl) ?_
              refine pw_ld E (pc' := 68) (st' := [pw_i 5, pw_i dp]) rfl (fun _ => rfl) ?_
              refine pw_if2 E (pc' := 76) rfl (by decide) (by omega) (by omega) (by decide) (by decide) ?_ ?_
              · intro hc106
                change dp ≠ (5 : Int) at hc106
                refine pw_ld E (pc' := 77) (st' := [.ref 141]) rfl (fun _ => rfl) ?_
                refine pw_getI2 I E (c := 125) (k := 8) (pc' := 80) rfl rfl rfl rfl rfl rfl (fun hf107a hf107b => ?_)
                refine pw_if E (pc' := 84) rfl (by decide) (by omega) (by omega) ?_ ?_
                · intro hc108
                  change pw_g h 125 8 ≤ (0 : Int) at hc108
                  refine pw_ld E (pc' := 85) (st' := [.ref 141]) rfl (fun _ => rfl) ?_
                  refine pw_bip E (pc' := 87) rfl rfl (by decide) ?_
                  obtain ⟨f109l, f109h, -⟩ := pw_obj (c := 125) I rfl
                  refine pw_call (m' := 247) (As := [.ref 141, pw_i 7]) (rest := []) (ls'' := [some (.ref 141), some (pw_i 7), none]) (by omega) E rfl (fun _ => pw_iV rfl rfl rfl rfl (pw_cellI f109h rfl)) (rfl : pm_ent 247 = some (2, 3, 12, 1, pmc_247)) rfl rfl (cm_247 (by omega) I A (7) (by omega) (by omega)) ?_
                  rintro h110 v111 ⟨x112, rfl, x112a, ⟨x112b, h110c⟩ | ⟨x112b, h110I, h110E, h110A, h110R, h1107⟩⟩
                  · refine ⟨_, rfl, ?_⟩
                    subst h110c
                    change x112 = pw_wd h 7 at x112a
                    change x112 = 0 at x112b
                    show pw X d h 252 90 [some (.ref 141), some (pw_i dp), some (pw_i x7), some (pw_i 0)] [pw_i x112] _
                    refine pw_if E (pc' := 109) rfl (by decide) (by omega) (by omega) ?_ ?_
                    · intro hc113
                      change x112 = (0 : Int) at hc113
                      refine pw_ld E (pc' := 110) (st' := [.ref 141]) rfl (fun _ => rfl) ?_
                      refine pw_bip E (pc' := 112) rfl rfl (by decide) ?_
                      obtain ⟨f114l, f114h, -⟩ := pw_obj (c := 125) I rfl
                      refine pw_call (m' := 256) (As := [.ref 141, pw_i 40]) (rest := []) (ls'' := [some (.ref 141), some (pw_i 40), none]) (by omega) E rfl (fun _ => pw_iV rfl rfl rfl rfl (pw_cellI f114h rfl)) (rfl : pm_ent 256 = some (2, 3, 12, 1, pmc_256)) rfl rfl (cm_256 (by omega) I A (40) (by omega) (by omega)) ?_
                      rintro h115 v116 ⟨x117, rfl, x117a, ⟨x117b, h115c⟩ | ⟨x117b, h115I, h115E, h115A, h115R, h1157⟩⟩
                      · refine ⟨_, rfl, ?_⟩
                        subst h115c
                        change x117 = pw_sg h 40 at x117a
                        change x117 = 0 at x117b
                        show pw X d h 252 115 [some (.ref 141), some (pw_i dp), some (pw_i x7), some (pw_i 0)] [pw_i x117] _
                        refine pw_if E (pc' := 134) rfl (by decide) (by omega) (by omega) ?_ ?_
                        · intro hc118
                          change x117 = (0 : Int) at hc118
                          refine pw_ld E (pc' := 135) (st' := [.ref 141]) rfl (fun _ => rfl) ?_
                          refine pw_ld E (pc' := 136) (st' := [pw_i 0, .ref 141]) rfl (fun _ => rfl) ?_
                          refine pw_if E (pc' := 143) rfl (by decide) (by decide) (by decide) ?_ ?_
                          · intro hc119
                            change (0 : Int) = (0 : Int) at hc119
                            refine pw_ld E (pc' := 144) (st' := [pw_i 2, .ref 141]) rfl (fun _ => rfl) ?_
                            refine pw_ld E (pc' := 145) (st' := [pw_i 0, pw_i 2, .ref 141]) rfl (fun _ => rfl) ?_
                            refine pw_if E (pc' := 161) rfl (by decide) (by decide) (by decide) ?_ ?_
                            · intro hc120
                              change (0 : Int) = (0 : Int) at hc120
                              refine pw_ld E (pc' := 162) (st' := [pw_i x7, pw_i 2, .ref 141]) rfl (fun _ => rfl) ?_
                              obtain ⟨f121l, f121h, -⟩ := pw_obj (c := 125) I rfl
                              refine pw_call (m' := 255) (As := [.ref 141, pw_i 2, pw_i x7]) (rest := []) (ls'' := [some (.ref 141), some (pw_i 2), some (pw_i x7)]) (by omega) E rfl (fun _ => pw_iV rfl rfl rfl rfl (pw_cellI f121h rfl)) (rfl : pm_ent 255 = some (3, 3, 12, 4, pmc_255)) rfl rfl (cm_255 (by omega) I A (by omega) (2) (by omega) (by omega) (x7) (by omega) (by omega)) ?_
                              rintro h122 v123 ⟨h122I, h122E, ⟨h1228, h1227, h122c, h122o, h122g, h122u⟩, rfl⟩
                              refine ⟨_, rfl, ?_⟩
                              have h122F := E0.tr (h122E.wk (W' := [125, 146, 147]) (by first | rfl | simp))
                              show pw X d h122 252 165 [some (.ref 141), some (pw_i dp), some (pw_i x7), some (pw_i 0)] [] _
                              have h122A : pw_A n h122 := ⟨hn1, by rw [pw_Eg (c := 127) I h122E rfl rfl]; exact A.2.1, by omega, by omega, by omega, by omega⟩
                              have h122R : pw_R (-1) 0 1 h h122 := pw_R.emit (c := 2) (Or.inl ⟨rfl, rfl, Or.inr ⟨rfl, by omega, by omega⟩⟩) (by omega) (by omega) h1228 h1227 h122c h122o h122u
                              have R124 : pw_R (-1) 0 1 h h122 := R0.tr (h122R : pw_R (-1) 0 1 h h122) (by decide) (by decide) (by decide)
                              have hA125 : pw_g h122 125 7 ≤ n ∧ 0 ≤ pw_g h122 125 8 ∧ 0 ≤ pw_g h122 125 7 ∧ 0 ≤ pw_g h122 125 32 := h122A.2.2
                              have hA126 : pw_g h 125 7 - pw_g h 125 32 + (-1) ≤ pw_g h122 125 7 - pw_g h122 125 32 := R124.1.2.2.2.1
                              have hA127 : pw_g h 125 7 ≤ pw_g h122 125 7 := h122R.1.2.1
                              have hA127z : pw_g h122 125 8 = 0 → pw_g h 125 8 = 0 := h122R.1.1
                              refine pw_ld E (pc' := 166) (st' := [.ref 141]) rfl (fun _ => rfl) ?_
                              refine pw_ld E (pc' := 167) (st' := [.ref 141, .ref 141]) rfl (fun _ => rfl) ?_
                              refine pw_getI2 h122I E (c := 125) (k := 7) (pc' := 170) rfl rfl rfl rfl rfl rfl (fun hf128a hf128b => ?_)
                              refine pw_ld E (pc' := 171) (st' := [pw_i 1, pw_i (pw_g h122 125 7), .ref 141]) rfl (fun _ => rfl) ?_
                              refine pw_add E (pc' := 172) rfl rfl ?_
                              have hlt129 : (pw_g h122 125 7) + 1 ≤ 1001 ∧ (pw_g h122 125 7) + 1 ≤ n := by first | omega | (have := pw_A.lt h122A (by omega); omega) | (have := pw_A.lt A (by omega); omega)
                              refine pw_putI h122I E (c := 125) (k := 7) (pc' := 175) rfl rfl rfl rfl (by omega) (by omega) (by omega) (by omega) rfl rfl ?_
                              intro h130I h130E
                              generalize h130w : pw_w h122 125 7 (pw_i ((pw_g h122 125 7) + 1)) = h130 at h130I h130E ⊢
                              have h130F := h122F.tr (h130E.wk (W' := [125, 146, 147]) (by first | rfl | simp))
                              have h1307 : pw_g h130 125 7 = pw_g h122 125 7 + 1 := by rw [← h130w]; exact pw_g_eq (c := 125) (k := 7) h122I rfl rfl (by omega) (by omega)
                              have h1308 : pw_g h130 125 8 = pw_g h122 125 8 := by rw [← h130w]; exact pw_g_ne (by omega)
                              have h1309 : pw_g h130 125 32 = pw_g h122 125 32 := by rw [← h130w]; exact pw_g_ne (by omega)
                              have h130A : pw_A n h130 := ⟨hn1, by rw [← h130w, pw_g_ne (by omega)]; exact h122A.2.1, by omega, by omega, by omega, by omega⟩
                              have h130R : pw_R 1 0 0 h122 h130 := pw_R.same (by decide) (by omega) (by omega) h1307 h1309 (fun j => by rw [← h130w]; exact pw_g_ne (by omega)) (fun j => by rw [← h130w]; exact pw_g_ne (by omega))
                              have R131 : pw_R 0 0 1 h h130 := R124.tr (h130R : pw_R 1 0 0 h122 h130) (by decide) (by decide) (by decide)
                              have hA132 : pw_g h130 125 7 ≤ n ∧ 0 ≤ pw_g h130 125 8 ∧ 0 ≤ pw_g h130 125 7 ∧ 0 ≤ pw_g h130 125 32 := h130A.2.2
                              have hA133 : pw_g h 125 7 - pw_g h 125 32 + 0 ≤ pw_g h130 125 7 - pw_g h130 125 32 := R131.1.2.2.2.1
                              have hA134 : pw_g h122 125 7 ≤ pw_g h130 125 7 := h130R.1.2.1
                              have hA134z : pw_g h130 125 8 = 0 → pw_g h122 125 8 = 0 := h130R.1.1
                              refine pw_vret E rfl ?_
                              exact ⟨h130I, h130F, ⟨h130A, R131.wk (by decide)⟩, rfl⟩
                            · intro hc135
                              change ¬ ((0 : Int) = (0 : Int)) at hc135
                              exfalso; omega
                          · intro hc136
                            change ¬ ((0 : Int) = (0 : Int)) at hc136
                            exfalso; omega
                        · intro hc137
                          change ¬ (x117 = (0 : Int)) at hc137
                          exfalso; omega
                      · refine ⟨_, rfl, ?_⟩
                        have h115F := E0.tr (h115E.wk (W' := [125, 146, 147]) (by first | rfl | simp))
                        change x117 = 1 at x117b
                        have R138 : pw_R 1 0 0 h h115 := R0.tr (h115R : pw_R 1 0 0 h h115) (by decide) (by decide) (by decide)
                        have hA139 : pw_g h115 125 7 ≤ n ∧ 0 ≤ pw_g h115 125 8 ∧ 0 ≤ pw_g h115 125 7 ∧ 0 ≤ pw_g h115 125 32 := h115A.2.2
                        have hA140 : pw_g h 125 7 - pw_g h 125 32 + 1 ≤ pw_g h115 125 7 - pw_g h115 125 32 := R138.1.2.2.2.1
                        have hA141 : pw_g h 125 7 ≤ pw_g h115 125 7 := h115R.1.2.1
                        have hA141z : pw_g h115 125 8 = 0 → pw_g h 125 8 = 0 := h115R.1.1
                        show pw X d h115 252 115 [some (.ref 141), some (pw_i dp), some (pw_i x7), some (pw_i 0)] [pw_i x117] _
                        refine pw_if E (pc' := 134) rfl (by decide) (by omega) (by omega) ?_ ?_
                        · intro hc142
                          change x117 = (0 : Int) at hc142
                          exfalso; omega
                        · intro hc143
                          change ¬ (x117 = (0 : Int)) at hc143
                          refine pw_ld E (pc' := 119) (st' := [.ref 141]) rfl (fun _ => rfl) ?_
                          refine pw_ld E (pc' := 120) (st' := [pw_i dp, .ref 141]) rfl (fun _ => rfl) ?_
                          refine pw_ld E (pc' := 121) (st' := [pw_i 1, pw_i dp, .ref 141]) rfl (fun _ => rfl) ?_
                          refine pw_add E (pc' := 122) rfl rfl ?_
                          obtain ⟨f144l, f144h, -⟩ := pw_obj (c := 125) h115I rfl
                          refine pw_call (m' := 248) (As := [.ref 141, pw_i (dp + 1)]) (rest := []) (ls'' := [some (.ref 141), some (pw_i (dp + 1)), none]) (by omega) E rfl (fun _ => pw_iV rfl rfl rfl rfl (pw_cellI f144h rfl)) (rfl : pm_ent 248 = some (2, 3, 12, 4, pmc_248)) rfl rfl ((hT (by omega)).2 (by omega) h115I h115A (by omega)) ?_
                          rintro h145 v146 ⟨h145I, h145E, ⟨h145A, h145R⟩, rfl⟩
                          refine ⟨_, rfl, ?_⟩
                          have h145F := h115F.tr (h145E.wk (W' := [125, 146, 147]) (by first | rfl | simp))
                          show pw X d h145 252 125 [some (.ref 141), some (pw_i dp), some (pw_i x7), some (pw_i 0)] [] _
                          have R147 : pw_R 1 0 1 h h145 := R138.tr (h145R : pw_R 0 0 1 h115 h145) (by decide) (by decide) (by decide)
                          have hA148 : pw_g h145 125 7 ≤ n ∧ 0 ≤ pw_g h145 125 8 ∧ 0 ≤ pw_g h145 125 7 ∧ 0 ≤ pw_g h145 125 32 := h145A.2.2
                          have hA149 : pw_g h 125 7 - pw_g h 125 32 + 1 ≤ pw_g h145 125 7 - pw_g h145 125 32 := R147.1.2.2.2.1
                          have hA150 : pw_g h115 125 7 ≤ pw_g h145 125 7 := h145R.1.2.1
                          have hA150z : pw_g h145 125 8 = 0 → pw_g h115 125 8 = 0 := h145R.1.1
                          refine pw_ld E (pc' := 126) (st' := [.ref 141]) rfl (fun _ => rfl) ?_
                          refine pw_bip E (pc' := 128) rfl rfl (by decide) ?_
                          obtain ⟨f151l, f151h, -⟩ := pw_obj (c := 125) h145I rfl
                          refine pw_call (m' := 257) (As := [.ref 141, pw_i 41]) (rest := []) (ls'' := [some (.ref 141), some (pw_i 41)]) (by omega) E rfl (fun _ => pw_iV rfl rfl rfl rfl (pw_cellI f151h rfl)) (rfl : pm_ent 257 = some (2, 2, 12, 4, pmc_257)) rfl rfl (cm_257 (by omega) h145I h145A (41) (by omega) (by omega)) ?_
                          rintro h152 v153 ⟨h152I, h152E, ⟨h152A, h152R⟩, rfl⟩
                          refine ⟨_, rfl, ?_⟩
                          have h152F := h145F.tr (h152E.wk (W' := [125, 146, 147]) (by first | rfl | simp))
                          show pw X d h152 252 131 [some (.ref 141), some (pw_i dp), some (pw_i x7), some (pw_i 0)] [] _
                          have R154 : pw_R 1 0 1 h h152 := R147.tr (h152R : pw_R 0 0 0 h145 h152) (by decide) (by decide) (by decide)
                          have hA155 : pw_g h152 125 7 ≤ n ∧ 0 ≤ pw_g h152 125 8 ∧ 0 ≤ pw_g h152 125 7 ∧ 0 ≤ pw_g h152 125 32 := h152A.2.2
                          have hA156 : pw_g h 125 7 - pw_g h 125 32 + 1 ≤ pw_g h152 125 7 - pw_g h152 125 32 := R154.1.2.2.2.1
                          have hA157 : pw_g h145 125 7 ≤ pw_g h152 125 7 := h152R.1.2.1
                          have hA157z : pw_g h152 125 8 = 0 → pw_g h145 125 8 = 0 := h152R.1.1
                          refine pw_goto E (pc' := 175) rfl (by decide) ?_
                          refine pw_vret E rfl ?_
                          exact ⟨h152I, h152F, ⟨h152A, R154.wk (by decide)⟩, rfl⟩
                    · intro hc158
                      change ¬ (x112 = (0 : Int)) at hc158
                      exfalso; omega
                  · refine ⟨_, rfl, ?_⟩
                    have h110F := E0.tr (h110E.wk (W' := [125, 146, 147]) (by first | rfl | simp))
                    change x112 = 1 at x112b
                    have R159 : pw_R 1 0 0 h h110 := R0.tr (h110R : pw_R 1 0 0 h h110) (by decide) (by decide) (by decide)
                    have hA160 : pw_g h110 125 7 ≤ n ∧ 0 ≤ pw_g h110 125 8 ∧ 0 ≤ pw_g h110 125 7 ∧ 0 ≤ pw_g h110 125 32 := h110A.2.2
                    have hA161 : pw_g h 125 7 - pw_g h 125 32 + 1 ≤ pw_g h110 125 7 - pw_g h110 125 32 := R159.1.2.2.2.1
                    have hA162 : pw_g h 125 7 ≤ pw_g h110 125 7 := h110R.1.2.1
                    have hA162z : pw_g h110 125 8 = 0 → pw_g h 125 8 = 0 := h110R.1.1
                    show pw X d h110 252 90 [some (.ref 141), some (pw_i dp), some (pw_i x7), some (pw_i 0)] [pw_i x112] _
                    refine pw_if E (pc' := 109) rfl (by decide) (by omega) (by omega) ?_ ?_
                    · intro hc163
                      change x112 = (0 : Int) at hc163
                      exfalso; omega
                    · intro hc164
                      change ¬ (x112 = (0 : Int)) at hc164
                      refine pw_ld E (pc' := 94) (st' := [.ref 141]) rfl (fun _ => rfl) ?_
                      refine pw_ld E (pc' := 95) (st' := [pw_i dp, .ref 141]) rfl (fun _ => rfl) ?_
                      refine pw_ld E (pc' := 96) (st' := [pw_i 1, pw_i dp, .ref 141]) rfl (fun _ => rfl) ?_
                      refine pw_add E (pc' := 97) rfl rfl ?_
                      obtain ⟨f165l, f165h, -⟩ := pw_obj (c := 125) h110I rfl
                      refine pw_call (m' := 252) (As := [.ref 141, pw_i (dp + 1)]) (rest := []) (ls'' := [some (.ref 141), some (pw_i (dp + 1)), none, none]) (by omega) E rfl (fun _ => pw_iV rfl rfl rfl rfl (pw_cellI f165h rfl)) (rfl : pm_ent 252 = some (2, 4, 12, 4, pmc_252)) rfl rfl ((hT (by omega)).1 (by omega) h110I h110A (by omega)) ?_
                      rintro h166 v167 ⟨h166I, h166E, ⟨h166A, h166R⟩, rfl⟩
                      refine ⟨_, rfl, ?_⟩
                      have h166F := h110F.tr (h166E.wk (W' := [125, 146, 147]) (by first | rfl | simp))
                      show pw X d h166 252 100 [some (.ref 141), some (pw_i dp), some (pw_i x7), some (pw_i 0)] [] _
                      have R168 : pw_R 1 0 1 h h166 := R159.tr (h166R : pw_R 0 0 1 h110 h166) (by decide) (by decide) (by decide)
                      have hA169 : pw_g h166 125 7 ≤ n ∧ 0 ≤ pw_g h166 125 8 ∧ 0 ≤ pw_g h166 125 7 ∧ 0 ≤ pw_g h166 125 32 := h166A.2.2
                      have hA170 : pw_g h 125 7 - pw_g h 125 32 + 1 ≤ pw_g h166 125 7 - pw_g h166 125 32 := R168.1.2.2.2.1
                      have hA171 : pw_g h110 125 7 ≤ pw_g h166 125 7 := h166R.1.2.1
                      have hA171z : pw_g h166 125 8 = 0 → pw_g h110 125 8 = 0 := h166R.1.1
                      refine pw_ld E (pc' := 101) (st' := [.ref 141]) rfl (fun _ => rfl) ?_
                      refine pw_ld E (pc' := 102) (st' := [pw_i 3, .ref 141]) rfl (fun _ => rfl) ?_
                      refine pw_ld E (pc' := 103) (st' := [pw_i 0, pw_i 3, .ref 141]) rfl (fun _ => rfl) ?_
                      obtain ⟨f172l, f172h, -⟩ := pw_obj (c := 125) h166I rfl
                      refine pw_call (m' := 255) (As := [.ref 141, pw_i 3, pw_i 0]) (rest := []) (ls'' := [some (.ref 141), some (pw_i 3), some (pw_i 0)]) (by omega) E rfl (fun _ => pw_iV rfl rfl rfl rfl (pw_cellI f172h rfl)) (rfl : pm_ent 255 = some (3, 3, 12, 4, pmc_255)) rfl rfl (cm_255 (by omega) h166I h166A (by omega) (3) (by omega) (by omega) (0) (by omega) (by omega)) ?_
                      rintro h173 v174 ⟨h173I, h173E, ⟨h1738, h1737, h173c, h173o, h173g, h173u⟩, rfl⟩
                      refine ⟨_, rfl, ?_⟩
                      have h173F := h166F.tr (h173E.wk (W' := [125, 146, 147]) (by first | rfl | simp))
                      show pw X d h173 252 106 [some (.ref 141), some (pw_i dp), some (pw_i x7), some (pw_i 0)] [] _
                      have h173A : pw_A n h173 := ⟨hn1, by rw [pw_Eg (c := 127) h166I h173E rfl rfl]; exact h166A.2.1, by omega, by omega, by omega, by omega⟩
                      have h173R : pw_R (-1) 1 0 h166 h173 := pw_R.emit (c := 3) (Or.inr (Or.inl ⟨rfl, rfl, rfl⟩)) (by omega) (by omega) h1738 h1737 h173c h173o h173u
                      have R175 : pw_R 0 0 1 h h173 := R168.tr (h173R : pw_R (-1) 1 0 h166 h173) (by decide) (by decide) (by decide)
                      have hA176 : pw_g h173 125 7 ≤ n ∧ 0 ≤ pw_g h173 125 8 ∧ 0 ≤ pw_g h173 125 7 ∧ 0 ≤ pw_g h173 125 32 := h173A.2.2
                      have hA177 : pw_g h 125 7 - pw_g h 125 32 + 0 ≤ pw_g h173 125 7 - pw_g h173 125 32 := R175.1.2.2.2.1
                      have hA178 : pw_g h166 125 7 ≤ pw_g h173 125 7 := h173R.1.2.1
                      have hA178z : pw_g h173 125 8 = 0 → pw_g h166 125 8 = 0 := h173R.1.1
                      refine pw_goto E (pc' := 175) rfl (by decide) ?_
                      refine pw_vret E rfl ?_
                      exact ⟨h173I, h173F, ⟨h173A, R175.wk (by decide)⟩, rfl⟩
                · intro hc179
                  change ¬ (pw_g h 125 8 ≤ (0 : Int)) at hc179
                  exfalso; omega
              · intro hc180
                change ¬ (dp ≠ (5 : Int)) at hc180
                refine pw_ld E (pc' := 72) (st' := [.ref 141]) rfl (fun _ => rfl) ?_
                refine pw_ld E (pc' := 73) (st' := [pw_i 5, .ref 141]) rfl (fun _ => rfl) ?_
                obtain ⟨f181l, f181h, -⟩ := pw_obj (c := 125) I rfl
                refine pw_call (m' := 245) (As := [.ref 141, pw_i 5]) (rest := []) (ls'' := [some (.ref 141), some (pw_i 5)]) (by omega) E rfl (fun _ => pw_iV rfl rfl rfl rfl (pw_cellI f181h rfl)) (rfl : pm_ent 245 = some (2, 2, 12, 4, pmc_245)) rfl rfl (cm_245 (by omega) I A (5) (by omega) (by omega)) ?_
                rintro h182 v183 ⟨h182I, h182E, ⟨h182A, h182R, h182z⟩, rfl⟩
                refine ⟨_, rfl, ?_⟩
                have h182F := E0.tr (h182E.wk (W' := [125, 146, 147]) (by first | rfl | simp))
                show pw X d h182 252 76 [some (.ref 141), some (pw_i dp), some (pw_i x7), some (pw_i 0)] [] _
                change 1 ≤ pw_g h182 125 8 at h182z
                have R184 : pw_R 0 0 0 h h182 := R0.tr (h182R : pw_R 0 0 0 h h182) (by decide) (by decide) (by decide)
                have hA185 : pw_g h182 125 7 ≤ n ∧ 0 ≤ pw_g h182 125 8 ∧ 0 ≤ pw_g h182 125 7 ∧ 0 ≤ pw_g h182 125 32 := h182A.2.2
                have hA186 : pw_g h 125 7 - pw_g h 125 32 + 0 ≤ pw_g h182 125 7 - pw_g h182 125 32 := R184.1.2.2.2.1
                have hA187 : pw_g h 125 7 ≤ pw_g h182 125 7 := h182R.1.2.1
                have hA187z : pw_g h182 125 8 = 0 → pw_g h 125 8 = 0 := h182R.1.1
                refine pw_ld E (pc' := 77) (st' := [.ref 141]) rfl (fun _ => rfl) ?_
                refine pw_getI2 h182I E (c := 125) (k := 8) (pc' := 80) rfl rfl rfl rfl rfl rfl (fun hf188a hf188b => ?_)
                refine pw_if E (pc' := 84) rfl (by decide) (by omega) (by omega) ?_ ?_
                · intro hc189
                  change pw_g h182 125 8 ≤ (0 : Int) at hc189
                  exfalso; omega
                · intro hc190
                  change ¬ (pw_g h182 125 8 ≤ (0 : Int)) at hc190
                  refine pw_vret E rfl ?_
                  exact ⟨h182I, h182F, ⟨h182A, (R184.wk (by decide)).bad (by omega)⟩, rfl⟩
            · intro hc191
              change ¬ (x103 ≠ (0 : Int)) at hc191
              exfalso; omega
          · skip
            refine pw_if E (pc' := 66) rfl (by decide) (by omega) (by omega) ?_ ?_
            · intro hc193
              change x103 ≠ (0 : Int) at hc193
              exfalso; omega
            · intro hc194
              change ¬ (x103 ≠ (0 : Int)) at hc194
              refine pw_ld E (pc' := 50) (st' := [.ref 141]) rfl (fun _ => rfl) ?_
              refine pw_bip E (pc' := 52) rfl rfl (by decide) ?_
              obtain ⟨f195l, f195h, -⟩ := pw_obj (c := 125) I rfl
              refine pw_call (m' := 244) (As := [.ref 141, pw_i 7]) (rest := []) (ls'' := [some (.ref 141), some (pw_i 7)]) (by omega) E rfl (fun _ => pw_iV rfl rfl rfl rfl (pw_cellI f195h rfl)) (rfl : pm_ent 244 = some (2, 2, 12, 1, pmc_244)) rfl rfl (cm_244 (by omega) I (7) (by omega) (by omega)) ?_
              rintro u197 v196 ⟨rfl, x198, rfl, hx198a, hx198b, hx198r⟩
              refine ⟨_, rfl, ?_⟩
              show pw X d h 252 55 [some (.ref 141), some (pw_i dp), some (pw_i x7), some (pw_i 0)] [pw_i x198] _
              change x198 = pw_wd h 7 ∧ (x198 = 1 → pw_g h 125 8 = 0 ∧ pw_g h 127 (pw_g h 125 7).toNat = 1) at hx198r
              rcases (by omega : x198 = 1 ∨ x198 = 0) with hb199 | hb199
              · skip
                refine pw_if E (pc' := 66) rfl (by decide) (by omega) (by omega) ?_ ?_
                · intro hc200
                  change x198 ≠ (0 : Int) at hc200
                  refine pw_ld E (pc' := 67) (st' := [pw_i dp]) rfl (fun _ => rfl) ?_
                  refine pw_ld E (pc' := 68) (st' := [pw_i 5, pw_i dp]) rfl (fun _ => rfl) ?_
                  refine pw_if2 E (pc' := 76) rfl (by decide) (by omega) (by omega) (by decide) (by decide) ?_ ?_
                  · intro hc201
                    change dp ≠ (5 : Int) at hc201
                    refine pw_ld E (pc' := 77) (st' := [.ref 141]) rfl (fun _ => rfl) ?_
                    refine pw_getI2 I E (c := 125) (k := 8) (pc' := 80) rfl rfl rfl rfl rfl rfl (fun hf202a hf202b => ?_)
                    refine pw_if E (pc' := 84) rfl (by decide) (by omega) (by omega) ?_ ?_
                    · intro hc203
                      change pw_g h 125 8 ≤ (0 : Int) at hc203
                      refine pw_ld E (pc' := 85) (st' := [.ref 141]) rfl (fun _ => rfl) ?_
                      refine pw_bip E (pc' := 87) rfl rfl (by decide) ?_
                      obtain ⟨f204l, f204h, -⟩ := pw_obj (c := 125) I rfl
                      refine pw_call (m' := 247) (As := [.ref 141, pw_i 7]) (rest := []) (ls'' := [some (.ref 141), some (pw_i 7), none]) (by omega) E rfl (fun _ => pw_iV rfl rfl rfl rfl (pw_cellI f204h rfl)) (rfl : pm_ent 247 = some (2, 3, 12, 1, pmc_247)) rfl rfl (cm_247 (by omega) I A (7) (by omega) (by omega)) ?_
                      rintro h205 v206 ⟨x207, rfl, x207a, ⟨x207b, h205c⟩ | ⟨x207b, h205I, h205E, h205A, h205R, h2057⟩⟩
                      · refine ⟨_, rfl, ?_⟩
                        subst h205c
                        change x207 = pw_wd h 7 at x207a
                        change x207 = 0 at x207b
                        show pw X d h 252 90 [some (.ref 141), some (pw_i dp), some (pw_i x7), some (pw_i 0)] [pw_i x207] _
                        refine pw_if E (pc' := 109) rfl (by decide) (by omega) (by omega) ?_ ?_
                        · intro hc208
                          change x207 = (0 : Int) at hc208
                          refine pw_ld E (pc' := 110) (st' := [.ref 141]) rfl (fun _ => rfl) ?_
                          refine pw_bip E (pc' := 112) rfl rfl (by decide) ?_
                          obtain ⟨f209l, f209h, -⟩ := pw_obj (c := 125) I rfl
                          refine pw_call (m' := 256) (As := [.ref 141, pw_i 40]) (rest := []) (ls'' := [some (.ref 141), some (pw_i 40), none]) (by omega) E rfl (fun _ => pw_iV rfl rfl rfl rfl (pw_cellI f209h rfl)) (rfl : pm_ent 256 = some (2, 3, 12, 1, pmc_256)) rfl rfl (cm_256 (by omega) I A (40) (by omega) (by omega)) ?_
                          rintro h210 v211 ⟨x212, rfl, x212a, ⟨x212b, h210c⟩ | ⟨x212b, h210I, h210E, h210A, h210R, h2107⟩⟩
                          · refine ⟨_, rfl, ?_⟩
                            subst h210c
                            change x212 = pw_sg h 40 at x212a
                            change x212 = 0 at x212b
                            show pw X d h 252 115 [some (.ref 141), some (pw_i dp), some (pw_i x7), some (pw_i 0)] [pw_i x212] _
                            refine pw_if E (pc' := 134) rfl (by decide) (by omega) (by omega) ?_ ?_
                            · intro hc213
                              change x212 = (0 : Int) at hc213
                              refine pw_ld E (pc' := 135) (st' := [.ref 141]) rfl (fun _ => rfl) ?_
                              refine pw_ld E (pc' := 136) (st' := [pw_i 0, .ref 141]) rfl (fun _ => rfl) ?_
                              refine pw_if E (pc' := 143) rfl (by decide) (by decide) (by decide) ?_ ?_
                              · intro hc214
                                change (0 : Int) = (0 : Int) at hc214
                                refine pw_ld E (pc' := 144) (st' := [pw_i 2, .ref 141]) rfl (fun _ => rfl) ?_
                                refine pw_ld E (pc' := 145) (st' := [pw_i 0, pw_i 2, .ref 141]) rfl (fun _ => rfl) ?_
                                refine pw_if E (pc' := 161) rfl (by decide) (by decide) (by decide) ?_ ?_
                                · intro hc215
                                  change (0 : Int) = (0 : Int) at hc215
                                  refine pw_ld E (pc' := 162) (st' := [pw_i x7, pw_i 2, .ref 141]) rfl (fun _ => rfl) ?_
                                  obtain ⟨f216l, f216h, -⟩ := pw_obj (c := 125) I rfl
                                  refine pw_call (m' := 255) (As := [.ref 141, pw_i 2, pw_i x7]) (rest := []) (ls'' := [some (.ref 141), some (pw_i 2), some (pw_i x7)]) (by omega) E rfl (fun _ => pw_iV rfl rfl rfl rfl (pw_cellI f216h rfl)) (rfl : pm_ent 255 = some (3, 3, 12, 4, pmc_255)) rfl rfl (cm_255 (by omega) I A (by omega) (2) (by omega) (by omega) (x7) (by omega) (by omega)) ?_
                                  rintro h217 v218 ⟨h217I, h217E, ⟨h2178, h2177, h217c, h217o, h217g, h217u⟩, rfl⟩
                                  refine ⟨_, rfl, ?_⟩
                                  have h217F := E0.tr (h217E.wk (W' := [125, 146, 147]) (by first | rfl | simp))
                                  show pw X d h217 252 165 [some (.ref 141), some (pw_i dp), some (pw_i x7), some (pw_i 0)] [] _
                                  have h217A : pw_A n h217 := ⟨hn1, by rw [pw_Eg (c := 127) I h217E rfl rfl]; exact A.2.1, by omega, by omega, by omega, by omega⟩
                                  have h217R : pw_R (-1) 0 1 h h217 := pw_R.emit (c := 2) (Or.inl ⟨rfl, rfl, Or.inr ⟨rfl, by omega, by omega⟩⟩) (by omega) (by omega) h2178 h2177 h217c h217o h217u
                                  have R219 : pw_R (-1) 0 1 h h217 := R0.tr (h217R : pw_R (-1) 0 1 h h217) (by decide) (by decide) (by decide)
                                  have hA220 : pw_g h217 125 7 ≤ n ∧ 0 ≤ pw_g h217 125 8 ∧ 0 ≤ pw_g h217 125 7 ∧ 0 ≤ pw_g h217 125 32 := h217A.2.2
                                  have hA221 : pw_g h 125 7 - pw_g h 125 32 + (-1) ≤ pw_g h217 125 7 - pw_g h217 125 32 := R219.1.2.2.2.1
                                  have hA222 : pw_g h 125 7 ≤ pw_g h217 125 7 := h217R.1.2.1
                                  have hA222z : pw_g h217 125 8 = 0 → pw_g h 125 8 = 0 := h217R.1.1
                                  refine pw_ld E (pc' := 166) (st' := [.ref 141]) rfl (fun _ => rfl) ?_
                                  refine pw_ld E (pc' := 167) (st' := [.ref 141, .ref 141]) rfl (fun _ => rfl) ?_
                                  refine pw_getI2 h217I E (c := 125) (k := 7) (pc' := 170) rfl rfl rfl rfl rfl rfl (fun hf223a hf223b => ?_)
                                  refine pw_ld E (pc' := 171) (st' := [pw_i 1, pw_i (pw_g h217 125 7), .ref 141]) rfl (fun _ => rfl) ?_
                                  refine pw_add E (pc' := 172) rfl rfl ?_
                                  have hlt224 : (pw_g h217 125 7) + 1 ≤ 1001 ∧ (pw_g h217 125 7) + 1 ≤ n := by first | omega | (have := pw_A.lt h217A (by omega); omega) | (have := pw_A.lt A (by omega); omega)
                                  refine pw_putI h217I E (c := 125) (k := 7) (pc' := 175) rfl rfl rfl rfl (by omega) (by omega) (by omega) (by omega) rfl rfl ?_
                                  intro h225I h225E
                                  generalize h225w : pw_w h217 125 7 (pw_i ((pw_g h217 125 7) + 1)) = h225 at h225I h225E ⊢
                                  have h225F := h217F.tr (h225E.wk (W' := [125, 146, 147]) (by first | rfl | simp))
                                  have h2257 : pw_g h225 125 7 = pw_g h217 125 7 + 1 := by rw [← h225w]; exact pw_g_eq (c := 125) (k := 7) h217I rfl rfl (by omega) (by omega)
                                  have h2258 : pw_g h225 125 8 = pw_g h217 125 8 := by rw [← h225w]; exact pw_g_ne (by omega)
                                  have h2259 : pw_g h225 125 32 = pw_g h217 125 32 := by rw [← h225w]; exact pw_g_ne (by omega)
                                  have h225A : pw_A n h225 := ⟨hn1, by rw [← h225w, pw_g_ne (by omega)]; exact h217A.2.1, by omega, by omega, by omega, by omega⟩
                                  have h225R : pw_R 1 0 0 h217 h225 := pw_R.same (by decide) (by omega) (by omega) h2257 h2259 (fun j => by rw [← h225w]; exact pw_g_ne (by omega)) (fun j => by rw [← h225w]; exact pw_g_ne (by omega))
                                  have R226 : pw_R 0 0 1 h h225 := R219.tr (h225R : pw_R 1 0 0 h217 h225) (by decide) (by decide) (by decide)
                                  have hA227 : pw_g h225 125 7 ≤ n ∧ 0 ≤ pw_g h225 125 8 ∧ 0 ≤ pw_g h225 125 7 ∧ 0 ≤ pw_g h225 125 32 := h225A.2.2
                                  have hA228 : pw_g h 125 7 - pw_g h 125 32 + 0 ≤ pw_g h225 125 7 - pw_g h225 125 32 := R226.1.2.2.2.1
                                  have hA229 : pw_g h217 125 7 ≤ pw_g h225 125 7 := h225R.1.2.1
                                  have hA229z : pw_g h225 125 8 = 0 → pw_g h217 125 8 = 0 := h225R.1.1
                                  refine pw_vret E rfl ?_
                                  exact ⟨h225I, h225F, ⟨h225A, R226.wk (by decide)⟩, rfl⟩
                                · intro hc230
                                  change ¬ ((0 : Int) = (0 : Int)) at hc230
                                  exfalso; omega
                              · intro hc231
                                change ¬ ((0 : Int) = (0 : Int)) at hc231
                                exfalso; omega
                            · intro hc232
                              change ¬ (x212 = (0 : Int)) at hc232
                              exfalso; omega
                          · refine ⟨_, rfl, ?_⟩
                            have h210F := E0.tr (h210E.wk (W' := [125, 146, 147]) (by first | rfl | simp))
                            change x212 = 1 at x212b
                            have R233 : pw_R 1 0 0 h h210 := R0.tr (h210R : pw_R 1 0 0 h h210) (by decide) (by decide) (by decide)
                            have hA234 : pw_g h210 125 7 ≤ n ∧ 0 ≤ pw_g h210 125 8 ∧ 0 ≤ pw_g h210 125 7 ∧ 0 ≤ pw_g h210 125 32 := h210A.2.2
                            have hA235 : pw_g h 125 7 - pw_g h 125 32 + 1 ≤ pw_g h210 125 7 - pw_g h210 125 32 := R233.1.2.2.2.1
                            have hA236 : pw_g h 125 7 ≤ pw_g h210 125 7 := h210R.1.2.1
                            have hA236z : pw_g h210 125 8 = 0 → pw_g h 125 8 = 0 := h210R.1.1
                            show pw X d h210 252 115 [some (.ref 141), some (pw_i dp), some (pw_i x7), some (pw_i 0)] [pw_i x212] _
                            refine pw_if E (pc' := 134) rfl (by decide) (by omega) (by omega) ?_ ?_
                            · intro hc237
                              change x212 = (0 : Int) at hc237
                              exfalso; omega
                            · intro hc238
                              change ¬ (x212 = (0 : Int)) at hc238
                              refine pw_ld E (pc' := 119) (st' := [.ref 141]) rfl (fun _ => rfl) ?_
                              refine pw_ld E (pc' := 120) (st' := [pw_i dp, .ref 141]) rfl (fun _ => rfl) ?_
                              refine pw_ld E (pc' := 121) (st' := [pw_i 1, pw_i dp, .ref 141]) rfl (fun _ => rfl) ?_
                              refine pw_add E (pc' := 122) rfl rfl ?_
                              obtain ⟨f239l, f239h, -⟩ := pw_obj (c := 125) h210I rfl
                              refine pw_call (m' := 248) (As := [.ref 141, pw_i (dp + 1)]) (rest := []) (ls'' := [some (.ref 141), some (pw_i (dp + 1)), none]) (by omega) E rfl (fun _ => pw_iV rfl rfl rfl rfl (pw_cellI f239h rfl)) (rfl : pm_ent 248 = some (2, 3, 12, 4, pmc_248)) rfl rfl ((hT (by omega)).2 (by omega) h210I h210A (by omega)) ?_
                              rintro h240 v241 ⟨h240I, h240E, ⟨h240A, h240R⟩, rfl⟩
                              refine ⟨_, rfl, ?_⟩
                              have h240F := h210F.tr (h240E.wk (W' := [125, 146, 147]) (by first | rfl | simp))
                              show pw X d h240 252 125 [some (.ref 141), some (pw_i dp), some (pw_i x7), some (pw_i 0)] [] _
                              have R242 : pw_R 1 0 1 h h240 := R233.tr (h240R : pw_R 0 0 1 h210 h240) (by decide) (by decide) (by decide)
                              have hA243 : pw_g h240 125 7 ≤ n ∧ 0 ≤ pw_g h240 125 8 ∧ 0 ≤ pw_g h240 125 7 ∧ 0 ≤ pw_g h240 125 32 := h240A.2.2
                              have hA244 : pw_g h 125 7 - pw_g h 125 32 + 1 ≤ pw_g h240 125 7 - pw_g h240 125 32 := R242.1.2.2.2.1
                              have hA245 : pw_g h210 125 7 ≤ pw_g h240 125 7 := h240R.1.2.1
                              have hA245z : pw_g h240 125 8 = 0 → pw_g h210 125 8 = 0 := h240R.1.1
                              refine pw_ld E (pc' := 126) (st' := [.ref 141]) rfl (fun _ => rfl) ?_
                              refine pw_bip E (pc' := 128) rfl rfl (by decide) ?_
                              obtain ⟨f246l, f246h, -⟩ := pw_obj (c := 125) h240I rfl
                              refine pw_call (m' := 257) (As := [.ref 141, pw_i 41]) (rest := []) (ls'' := [some (.ref 141), some (pw_i 41)]) (by omega) E rfl (fun _ => pw_iV rfl rfl rfl rfl (pw_cellI f246h rfl)) (rfl : pm_ent 257 = some (2, 2, 12, 4, pmc_257)) rfl rfl (cm_257 (by omega) h240I h240A (41) (by omega) (by omega)) ?_
                              rintro h247 v248 ⟨h247I, h247E, ⟨h247A, h247R⟩, rfl⟩
                              refine ⟨_, rfl, ?_⟩
                              have h247F := h240F.tr (h247E.wk (W' := [125, 146, 147]) (by first | rfl | simp))
                              show pw X d h247 252 131 [some (.ref 141), some (pw_i dp), some (pw_i x7), some (pw_i 0)] [] _
                              have R249 : pw_R 1 0 1 h h247 := R242.tr (h247R : pw_R 0 0 0 h240 h247) (by decide) (by decide) (by decide)
                              have hA250 : pw_g h247 125 7 ≤ n ∧ 0 ≤ pw_g h247 125 8 ∧ 0 ≤ pw_g h247 125 7 ∧ 0 ≤ pw_g h247 125 32 := h247A.2.2
                              have hA251 : pw_g h 125 7 - pw_g h 125 32 + 1 ≤ pw_g h247 125 7 - pw_g h247 125 32 := R249.1.2.2.2.1
                              have hA252 : pw_g h240 125 7 ≤ pw_g h247 125 7 := h247R.1.2.1
                              have hA252z : pw_g h247 125 8 = 0 → pw_g h240 125 8 = 0 := h247R.1.1
                              refine pw_goto E (pc' := 175) rfl (by decide) ?_
                              refine pw_vret E rfl ?_
                              exact ⟨h247I, h247F, ⟨h247A, R249.wk (by decide)⟩, rfl⟩
                        · intro hc253
                          change ¬ (x207 = (0 : Int)) at hc253
                          exfalso; omega
                      · refine ⟨_, rfl, ?_⟩
                        have h205F := E0.tr (h205E.wk (W' := [125, 146, 147]) (by first | rfl | simp))
                        change x207 = 1 at x207b
                        have R254 : pw_R 1 0 0 h h205 := R0.tr (h205R : pw_R 1 0 0 h h205) (by decide) (by decide) (by decide)
                        have hA255 : pw_g h205 125 7 ≤ n ∧ 0 ≤ pw_g h205 125 8 ∧ 0 ≤ pw_g h205 125 7 ∧ 0 ≤ pw_g h205 125 32 := h205A.2.2
                        have hA256 : pw_g h 125 7 - pw_g h 125 32 + 1 ≤ pw_g h205 125 7 - pw_g h205 125 32 := R254.1.2.2.2.1
                        have hA257 : pw_g h 125 7 ≤ pw_g h205 125 7 := h205R.1.2.1
                        have hA257z : pw_g h205 125 8 = 0 → pw_g h 125 8 = 0 := h205R.1.1
                        show pw X d h205 252 90 [some (.ref 141), some (pw_i dp), some (pw_i x7), some (pw_i 0)] [pw_i x207] _
                        refine pw_if E (pc' := 109) rfl (by decide) (by omega) (by omega) ?_ ?_
                        · intro hc258
                          change x207 = (0 : Int) at hc258
                          exfalso; omega
                        · intro hc259
                          change ¬ (x207 = (0 : Int)) at hc259
                          refine pw_ld E (pc' := 94) (st' := [.ref 141]) rfl (fun _ => rfl) ?_
                          refine pw_ld E (pc' := 95) (st' := [pw_i dp, .ref 141]) rfl (fun _ => rfl) ?_
                          refine pw_ld E (pc' := 96) (st' := [pw_i 1, pw_i dp, .ref 141]) rfl (fun _ => rfl) ?_
                          refine pw_add E (pc' := 97) rfl rfl ?_
                          obtain ⟨f260l, f260h, -⟩ := pw_obj (c := 125) h205I rfl
                          refine pw_call (m' := 252) (As := [.ref 141, pw_i (dp + 1)]) (rest := []) (ls'' := [some (.ref 141), some (pw_i (dp + 1)), none, none]) (by omega) E rfl (fun _ => pw_iV rfl rfl rfl rfl (pw_cellI f260h rfl)) (rfl : pm_ent 252 = some (2, 4, 12, 4, pmc_252)) rfl rfl ((hT (by omega)).1 (by omega) h205I h205A (by omega)) ?_
                          rintro h261 v262 ⟨h261I, h261E, ⟨h261A, h261R⟩, rfl⟩
                          refine ⟨_, rfl, ?_⟩
                          have h261F := h205F.tr (h261E.wk (W' := [125, 146, 147]) (by first | rfl | simp))
                          show pw X d h261 252 100 [some (.ref 141), some (pw_i dp), some (pw_i x7), some (pw_i 0)] [] _
                          have R263 : pw_R 1 0 1 h h261 := R254.tr (h261R : pw_R 0 0 1 h205 h261) (by decide) (by decide) (by decide)
                          have hA264 : pw_g h261 125 7 ≤ n ∧ 0 ≤ pw_g h261 125 8 ∧ 0 ≤ pw_g h261 125 7 ∧ 0 ≤ pw_g h261 125 32 := h261A.2.2
                          have hA265 : pw_g h 125 7 - pw_g h 125 32 + 1 ≤ pw_g h261 125 7 - pw_g h261 125 32 := R263.1.2.2.2.1
                          have hA266 : pw_g h205 125 7 ≤ pw_g h261 125 7 := h261R.1.2.1
                          have hA266z : pw_g h261 125 8 = 0 → pw_g h205 125 8 = 0 := h261R.1.1
                          refine pw_ld E (pc' := 101) (st' := [.ref 141]) rfl (fun _ => rfl) ?_
                          refine pw_ld E (pc' := 102) (st' := [pw_i 3, .ref 141]) rfl (fun _ => rfl) ?_
                          refine pw_ld E (pc' := 103) (st' := [pw_i 0, pw_i 3, .ref 141]) rfl (fun _ => rfl) ?_
                          obtain ⟨f267l, f267h, -⟩ := pw_obj (c := 125) h261I rfl
                          refine pw_call (m' := 255) (As := [.ref 141, pw_i 3, pw_i 0]) (rest := []) (ls'' := [some (.ref 141), some (pw_i 3), some (pw_i 0)]) (by omega) E rfl (fun _ => pw_iV rfl rfl rfl rfl (pw_cellI f267h rfl)) (rfl : pm_ent 255 = some (3, 3, 12, 4, pmc_255)) rfl rfl (cm_255 (by omega) h261I h261A (by omega) (3) (by omega) (by omega) (0) (by omega) (by omega)) ?_
                          rintro h268 v269 ⟨h268I, h268E, ⟨h2688, h2687, h268c, h268o, h268g, h268u⟩, rfl⟩
                          refine ⟨_, rfl, ?_⟩
                          have h268F := h261F.tr (h268E.wk (W' := [125, 146, 147]) (by first | rfl | simp))
                          show pw X d h268 252 106 [some (.ref 141), some (pw_i dp), some (pw_i x7), some (pw_i 0)] [] _
                          have h268A : pw_A n h268 := ⟨hn1, by rw [pw_Eg (c := 127) h261I h268E rfl rfl]; exact h261A.2.1, by omega, by omega, by omega, by omega⟩
                          have h268R : pw_R (-1) 1 0 h261 h268 := pw_R.emit (c := 3) (Or.inr (Or.inl ⟨rfl, rfl, rfl⟩)) (by omega) (by omega) h2688 h2687 h268c h268o h268u
                          have R270 : pw_R 0 0 1 h h268 := R263.tr (h268R : pw_R (-1) 1 0 h261 h268) (by decide) (by decide) (by decide)
                          have hA271 : pw_g h268 125 7 ≤ n ∧ 0 ≤ pw_g h268 125 8 ∧ 0 ≤ pw_g h268 125 7 ∧ 0 ≤ pw_g h268 125 32 := h268A.2.2
                          have hA272 : pw_g h 125 7 - pw_g h 125 32 + 0 ≤ pw_g h268 125 7 - pw_g h268 125 32 := R270.1.2.2.2.1
                          have hA273 : pw_g h261 125 7 ≤ pw_g h268 125 7 := h268R.1.2.1
                          have hA273z : pw_g h268 125 8 = 0 → pw_g h261 125 8 = 0 := h268R.1.1
                          refine pw_goto E (pc' := 175) rfl (by decide) ?_
                          refine pw_vret E rfl ?_
                          exact ⟨h268I, h268F, ⟨h268A, R270.wk (by decide)⟩, rfl⟩
                    · intro hc274
                      change ¬ (pw_g h 125 8 ≤ (0 : Int)) at hc274
                      exfalso; omega
                  · intro hc275
                    change ¬ (dp ≠ (5 : Int)) at hc275
                    refine pw_ld E (pc' := 72) (st' := [.ref 141]) rfl (fun _ => rfl) ?_
                    refine pw_ld E (pc' := 73) (st' := [pw_i 5, .ref 141]) rfl (fun _ => rfl) ?_
                    obtain ⟨f276l, f276h, -⟩ := pw_obj (c := 125) I rfl
                    refine pw_call (m' := 245) (As := [.ref 141, pw_i 5]) (rest := []) (ls'' := [some (.ref 141), some (pw_i 5)]) (by omega) E rfl (fun _ => pw_iV rfl rfl rfl rfl (pw_cellI f276h rfl)) (rfl : pm_ent 245 = some (2, 2, 12, 4, pmc_245)) rfl rfl (cm_245 (by omega) I A (5) (by omega) (by omega)) ?_
                    rintro h277 v278 ⟨h277I, h277E, ⟨h277A, h277R, h277z⟩, rfl⟩
                    refine ⟨_, rfl, ?_⟩
                    have h277F := E0.tr (h277E.wk (W' := [125, 146, 147]) (by first | rfl | simp))
                    show pw X d h277 252 76 [some (.ref 141), some (pw_i dp), some (pw_i x7), some (pw_i 0)] [] _
                    change 1 ≤ pw_g h277 125 8 at h277z
                    have R279 : pw_R 0 0 0 h h277 := R0.tr (h277R : pw_R 0 0 0 h h277) (by decide) (by decide) (by decide)
                    have hA280 : pw_g h277 125 7 ≤ n ∧ 0 ≤ pw_g h277 125 8 ∧ 0 ≤ pw_g h277 125 7 ∧ 0 ≤ pw_g h277 125 32 := h277A.2.2
                    have hA281 : pw_g h 125 7 - pw_g h 125 32 + 0 ≤ pw_g h277 125 7 - pw_g h277 125 32 := R279.1.2.2.2.1
                    have hA282 : pw_g h 125 7 ≤ pw_g h277 125 7 := h277R.1.2.1
                    have hA282z : pw_g h277 125 8 = 0 → pw_g h 125 8 = 0 := h277R.1.1
                    refine pw_ld E (pc' := 77) (st' := [.ref 141]) rfl (fun _ => rfl) ?_
                    refine pw_getI2 h277I E (c := 125) (k := 8) (pc' := 80) rfl rfl rfl rfl rfl rfl (fun hf283a hf283b => ?_)
                    refine pw_if E (pc' := 84) rfl (by decide) (by omega) (by omega) ?_ ?_
                    · intro hc284
                      change pw_g h277 125 8 ≤ (0 : Int) at hc284
                      exfalso; omega
                    · intro hc285
                      change ¬ (pw_g h277 125 8 ≤ (0 : Int)) at hc285
                      refine pw_vret E rfl ?_
                      exact ⟨h277I, h277F, ⟨h277A, (R279.wk (by decide)).bad (by omega)⟩, rfl⟩
                · intro hc286
                  change ¬ (x198 ≠ (0 : Int)) at hc286
                  exfalso; omega
              · skip
                refine pw_if E (pc' := 66) rfl (by decide) (by omega) (by omega) ?_ ?_
                · intro hc288
                  change x198 ≠ (0 : Int) at hc288
                  exfalso; omega
                · intro hc289
                  change ¬ (x198 ≠ (0 : Int)) at hc289
                  refine pw_ld E (pc' := 59) (st' := [.ref 141]) rfl (fun _ => rfl) ?_
                  refine pw_ld E (pc' := 60) (st' := [pw_i 1, .ref 141]) rfl (fun _ => rfl) ?_
                  obtain ⟨f290l, f290h, -⟩ := pw_obj (c := 125) I rfl
                  refine pw_call (m' := 245) (As := [.ref 141, pw_i 1]) (rest := []) (ls'' := [some (.ref 141), some (pw_i 1)]) (by omega) E rfl (fun _ => pw_iV rfl rfl rfl rfl (pw_cellI f290h rfl)) (rfl : pm_ent 245 = some (2, 2, 12, 4, pmc_245)) rfl rfl (cm_245 (by omega) I A (1) (by omega) (by omega)) ?_
                  rintro h291 v292 ⟨h291I, h291E, ⟨h291A, h291R, h291z⟩, rfl⟩
                  refine ⟨_, rfl, ?_⟩
                  have h291F := E0.tr (h291E.wk (W' := [125, 146, 147]) (by first | rfl | simp))
                  show pw X d h291 252 63 [some (.ref 141), some (pw_i dp), some (pw_i x7), some (pw_i 0)] [] _
                  change 1 ≤ pw_g h291 125 8 at h291z
                  have R293 : pw_R 0 0 0 h h291 := R0.tr (h291R : pw_R 0 0 0 h h291) (by decide) (by decide) (by decide)
                  have hA294 : pw_g h291 125 7 ≤ n ∧ 0 ≤ pw_g h291 125 8 ∧ 0 ≤ pw_g h291 125 7 ∧ 0 ≤ pw_g h291 125 32 := h291A.2.2
                  have hA295 : pw_g h 125 7 - pw_g h 125 32 + 0 ≤ pw_g h291 125 7 - pw_g h291 125 32 := R293.1.2.2.2.1
                  have hA296 : pw_g h 125 7 ≤ pw_g h291 125 7 := h291R.1.2.1
                  have hA296z : pw_g h291 125 8 = 0 → pw_g h 125 8 = 0 := h291R.1.1
                  refine pw_goto E (pc' := 76) rfl (by decide) ?_
                  refine pw_ld E (pc' := 77) (st' := [.ref 141]) rfl (fun _ => rfl) ?_
                  refine pw_getI2 h291I E (c := 125) (k := 8) (pc' := 80) rfl rfl rfl rfl rfl rfl (fun hf297a hf297b => ?_)
                  refine pw_if E (pc' := 84) rfl (by decide) (by omega) (by omega) ?_ ?_
                  · intro hc298
                    change pw_g h291 125 8 ≤ (0 : Int) at hc298
                    exfalso; omega
                  · intro hc299
                    change ¬ (pw_g h291 125 8 ≤ (0 : Int)) at hc299
                    refine pw_vret E rfl ?_
                    exact ⟨h291I, h291F, ⟨h291A, (R293.wk (by decide)).bad (by omega)⟩, rfl⟩
    · intro hc300
      change ¬ (pw_g h 127 ((pw_g h 125 7).toNat) ≠ (2 : Int)) at hc300
      refine pw_ld E (pc' := 27) (st' := [pw_i 1]) rfl (fun _ => rfl) ?_
      refine pw_goto E (pc' := 31) rfl (by decide) ?_
      refine pw_istn E (pc' := 32) (ls' := [some (.ref 141), some (pw_i dp), some (pw_i x7), some (pw_i 1)]) rfl rfl rfl rfl ?_
      refine pw_ld E (pc' := 33) (st' := [pw_i x7]) rfl (fun _ => rfl) ?_
      refine pw_if E (pc' := 66) rfl (by decide) (by omega) (by omega) ?_ ?_
      · intro hc301
        change (0 : Int) ≤ x7 at hc301
        refine pw_ld E (pc' := 67) (st' := [pw_i dp]) rfl (fun _ => rfl) ?_
        refine pw_ld E (pc' := 68) (st' := [pw_i 5, pw_i dp]) rfl (fun _ => rfl) ?_
        refine pw_if2 E (pc' := 76) rfl (by decide) (by omega) (by omega) (by decide) (by decide) ?_ ?_
        · intro hc302
          change dp ≠ (5 : Int) at hc302
          refine pw_ld E (pc' := 77) (st' := [.ref 141]) rfl (fun _ => rfl) ?_
          refine pw_getI2 I E (c := 125) (k := 8) (pc' := 80) rfl rfl rfl rfl rfl rfl (fun hf303a hf303b => ?_)
          refine pw_if E (pc' := 84) rfl (by decide) (by omega) (by omega) ?_ ?_
          · intro hc304
            change pw_g h 125 8 ≤ (0 : Int) at hc304
            refine pw_ld E (pc' := 85) (st' := [.ref 141]) rfl (fun _ => rfl) ?_
            refine pw_bip E (pc' := 87) rfl rfl (by decide) ?_
            obtain ⟨f305l, f305h, -⟩ := pw_obj (c := 125) I rfl
            refine pw_call (m' := 247) (As := [.ref 141, pw_i 7]) (rest := []) (ls'' := [some (.ref 141), some (pw_i 7), none]) (by omega) E rfl (fun _ => pw_iV rfl rfl rfl rfl (pw_cellI f305h rfl)) (rfl : pm_ent 247 = some (2, 3, 12, 1, pmc_247)) rfl rfl (cm_247 (by omega) I A (7) (by omega) (by omega)) ?_
            rintro h306 v307 ⟨x308, rfl, x308a, ⟨x308b, h306c⟩ | ⟨x308b, h306I, h306E, h306A, h306R, h3067⟩⟩
            · refine ⟨_, rfl, ?_⟩
              subst h306c
              change x308 = pw_wd h 7 at x308a
              change x308 = 0 at x308b
              show pw X d h 252 90 [some (.ref 141), some (pw_i dp), some (pw_i x7), some (pw_i 1)] [pw_i x308] _
              refine pw_if E (pc' := 109) rfl (by decide) (by omega) (by omega) ?_ ?_
              · intro hc309
                change x308 = (0 : Int) at hc309
                refine pw_ld E (pc' := 110) (st' := [.ref 141]) rfl (fun _ => rfl) ?_
                refine pw_bip E (pc' := 112) rfl rfl (by decide) ?_
                obtain ⟨f310l, f310h, -⟩ := pw_obj (c := 125) I rfl
                refine pw_call (m' := 256) (As := [.ref 141, pw_i 40]) (rest := []) (ls'' := [some (.ref 141), some (pw_i 40), none]) (by omega) E rfl (fun _ => pw_iV rfl rfl rfl rfl (pw_cellI f310h rfl)) (rfl : pm_ent 256 = some (2, 3, 12, 1, pmc_256)) rfl rfl (cm_256 (by omega) I A (40) (by omega) (by omega)) ?_
                rintro h311 v312 ⟨x313, rfl, x313a, ⟨x313b, h311c⟩ | ⟨x313b, h311I, h311E, h311A, h311R, h3117⟩⟩
                · refine ⟨_, rfl, ?_⟩
                  subst h311c
                  change x313 = pw_sg h 40 at x313a
                  change x313 = 0 at x313b
                  show pw X d h 252 115 [some (.ref 141), some (pw_i dp), some (pw_i x7), some (pw_i 1)] [pw_i x313] _
                  refine pw_if E (pc' := 134) rfl (by decide) (by omega) (by omega) ?_ ?_
                  · intro hc314
                    change x313 = (0 : Int) at hc314
                    refine pw_ld E (pc' := 135) (st' := [.ref 141]) rfl (fun _ => rfl) ?_
                    refine pw_ld E (pc' := 136) (st' := [pw_i 1, .ref 141]) rfl (fun _ => rfl) ?_
                    refine pw_if E (pc' := 143) rfl (by decide) (by decide) (by decide) ?_ ?_
                    · intro hc315
                      change (1 : Int) = (0 : Int) at hc315
                      exfalso; omega
                    · intro hc316
                      change ¬ ((1 : Int) = (0 : Int)) at hc316
                      refine pw_ld E (pc' := 140) (st' := [pw_i 1, .ref 141]) rfl (fun _ => rfl) ?_
                      refine pw_goto E (pc' := 144) rfl (by decide) ?_
                      refine pw_ld E (pc' := 145) (st' := [pw_i 1, pw_i 1, .ref 141]) rfl (fun _ => rfl) ?_
                      refine pw_if E (pc' := 161) rfl (by decide) (by decide) (by decide) ?_ ?_
                      · intro hc317
                        change (1 : Int) = (0 : Int) at hc317
                        exfalso; omega
                      · intro hc318
                        change ¬ ((1 : Int) = (0 : Int)) at hc318
                        refine pw_ld E (pc' := 149) (st' := [.ref 141, pw_i 1, .ref 141]) rfl (fun _ => rfl) ?_
                        refine pw_getR (b := 145) I E (c := 125) (k := 6) (pc' := 152) rfl rfl rfl rfl rfl rfl rfl ?_
                        refine pw_ld E (pc' := 153) (st' := [.ref 141, .ref 145, pw_i 1, .ref 141]) rfl (fun _ => rfl) ?_
                        refine pw_getI2 I E (c := 125) (k := 7) (pc' := 156) rfl rfl rfl rfl rfl rfl (fun hf319a hf319b => ?_)
                        refine pw_lald I E (c := 129) (pc' := 157) rfl rfl rfl (by decide) (by omega) (by omega) rfl ?_
                        refine pw_l2i E (pc' := 158) rfl rfl ?_
                        intro x320 hx320a hx320b
                        refine pw_goto E (pc' := 162) rfl (by decide) ?_
                        obtain ⟨f321l, f321h, -⟩ := pw_obj (c := 125) I rfl
                        refine pw_call (m' := 255) (As := [.ref 141, pw_i 1, pw_i x320]) (rest := []) (ls'' := [some (.ref 141), some (pw_i 1), some (pw_i x320)]) (by omega) E rfl (fun _ => pw_iV rfl rfl rfl rfl (pw_cellI f321h rfl)) (rfl : pm_ent 255 = some (3, 3, 12, 4, pmc_255)) rfl rfl (cm_255 (by omega) I A (by omega) (1) (by omega) (by omega) (x320) (by omega) (by omega)) ?_
                        rintro h322 v323 ⟨h322I, h322E, ⟨h3228, h3227, h322c, h322o, h322g, h322u⟩, rfl⟩
                        refine ⟨_, rfl, ?_⟩
                        have h322F := E0.tr (h322E.wk (W' := [125, 146, 147]) (by first | rfl | simp))
                        show pw X d h322 252 165 [some (.ref 141), some (pw_i dp), some (pw_i x7), some (pw_i 1)] [] _
                        have h322A : pw_A n h322 := ⟨hn1, by rw [pw_Eg (c := 127) I h322E rfl rfl]; exact A.2.1, by omega, by omega, by omega, by omega⟩
                        have h322R : pw_R (-1) 0 1 h h322 := pw_R.emit (c := 1) (Or.inl ⟨rfl, rfl, Or.inl rfl⟩) (by omega) (by omega) h3228 h3227 h322c h322o h322u
                        have R324 : pw_R (-1) 0 1 h h322 := R0.tr (h322R : pw_R (-1) 0 1 h h322) (by decide) (by decide) (by decide)
                        have hA325 : pw_g h322 125 7 ≤ n ∧ 0 ≤ pw_g h322 125 8 ∧ 0 ≤ pw_g h322 125 7 ∧ 0 ≤ pw_g h322 125 32 := h322A.2.2
                        have hA326 : pw_g h 125 7 - pw_g h 125 32 + (-1) ≤ pw_g h322 125 7 - pw_g h322 125 32 := R324.1.2.2.2.1
                        have hA327 : pw_g h 125 7 ≤ pw_g h322 125 7 := h322R.1.2.1
                        have hA327z : pw_g h322 125 8 = 0 → pw_g h 125 8 = 0 := h322R.1.1
                        refine pw_ld E (pc' := 166) (st' := [.ref 141]) rfl (fun _ => rfl) ?_
                        refine pw_ld E (pc' := 167) (st' := [.ref 141, .ref 141]) rfl (fun _ => rfl) ?_
                        refine pw_getI2 h322I E (c := 125) (k := 7) (pc' := 170) rfl rfl rfl rfl rfl rfl (fun hf328a hf328b => ?_)
                        refine pw_ld E (pc' := 171) (st' := [pw_i 1, pw_i (pw_g h322 125 7), .ref 141]) rfl (fun _ => rfl) ?_
                        refine pw_add E (pc' := 172) rfl rfl ?_
                        have hlt329 : (pw_g h322 125 7) + 1 ≤ 1001 ∧ (pw_g h322 125 7) + 1 ≤ n := by first | omega | (have := pw_A.lt h322A (by omega); omega) | (have := pw_A.lt A (by omega); omega)
                        refine pw_putI h322I E (c := 125) (k := 7) (pc' := 175) rfl rfl rfl rfl (by omega) (by omega) (by omega) (by omega) rfl rfl ?_
                        intro h330I h330E
                        generalize h330w : pw_w h322 125 7 (pw_i ((pw_g h322 125 7) + 1)) = h330 at h330I h330E ⊢
                        have h330F := h322F.tr (h330E.wk (W' := [125, 146, 147]) (by first | rfl | simp))
                        have h3307 : pw_g h330 125 7 = pw_g h322 125 7 + 1 := by rw [← h330w]; exact pw_g_eq (c := 125) (k := 7) h322I rfl rfl (by omega) (by omega)
                        have h3308 : pw_g h330 125 8 = pw_g h322 125 8 := by rw [← h330w]; exact pw_g_ne (by omega)
                        have h3309 : pw_g h330 125 32 = pw_g h322 125 32 := by rw [← h330w]; exact pw_g_ne (by omega)
                        have h330A : pw_A n h330 := ⟨hn1, by rw [← h330w, pw_g_ne (by omega)]; exact h322A.2.1, by omega, by omega, by omega, by omega⟩
                        have h330R : pw_R 1 0 0 h322 h330 := pw_R.same (by decide) (by omega) (by omega) h3307 h3309 (fun j => by rw [← h330w]; exact pw_g_ne (by omega)) (fun j => by rw [← h330w]; exact pw_g_ne (by omega))
                        have R331 : pw_R 0 0 1 h h330 := R324.tr (h330R : pw_R 1 0 0 h322 h330) (by decide) (by decide) (by decide)
                        have hA332 : pw_g h330 125 7 ≤ n ∧ 0 ≤ pw_g h330 125 8 ∧ 0 ≤ pw_g h330 125 7 ∧ 0 ≤ pw_g h330 125 32 := h330A.2.2
                        have hA333 : pw_g h 125 7 - pw_g h 125 32 + 0 ≤ pw_g h330 125 7 - pw_g h330 125 32 := R331.1.2.2.2.1
                        have hA334 : pw_g h322 125 7 ≤ pw_g h330 125 7 := h330R.1.2.1
                        have hA334z : pw_g h330 125 8 = 0 → pw_g h322 125 8 = 0 := h330R.1.1
                        refine pw_vret E rfl ?_
                        exact ⟨h330I, h330F, ⟨h330A, R331.wk (by decide)⟩, rfl⟩
                  · intro hc335
                    change ¬ (x313 = (0 : Int)) at hc335
                    exfalso; omega
                · refine ⟨_, rfl, ?_⟩
                  have h311F := E0.tr (h311E.wk (W' := [125, 146, 147]) (by first | rfl | simp))
                  change x313 = 1 at x313b
                  have R336 : pw_R 1 0 0 h h311 := R0.tr (h311R : pw_R 1 0 0 h h311) (by decide) (by decide) (by decide)
                  have hA337 : pw_g h311 125 7 ≤ n ∧ 0 ≤ pw_g h311 125 8 ∧ 0 ≤ pw_g h311 125 7 ∧ 0 ≤ pw_g h311 125 32 := h311A.2.2
                  have hA338 : pw_g h 125 7 - pw_g h 125 32 + 1 ≤ pw_g h311 125 7 - pw_g h311 125 32 := R336.1.2.2.2.1
                  have hA339 : pw_g h 125 7 ≤ pw_g h311 125 7 := h311R.1.2.1
                  have hA339z : pw_g h311 125 8 = 0 → pw_g h 125 8 = 0 := h311R.1.1
                  show pw X d h311 252 115 [some (.ref 141), some (pw_i dp), some (pw_i x7), some (pw_i 1)] [pw_i x313] _
                  refine pw_if E (pc' := 134) rfl (by decide) (by omega) (by omega) ?_ ?_
                  · intro hc340
                    change x313 = (0 : Int) at hc340
                    exfalso; omega
                  · intro hc341
                    change ¬ (x313 = (0 : Int)) at hc341
                    refine pw_ld E (pc' := 119) (st' := [.ref 141]) rfl (fun _ => rfl) ?_
                    refine pw_ld E (pc' := 120) (st' := [pw_i dp, .ref 141]) rfl (fun _ => rfl) ?_
                    refine pw_ld E (pc' := 121) (st' := [pw_i 1, pw_i dp, .ref 141]) rfl (fun _ => rfl) ?_
                    refine pw_add E (pc' := 122) rfl rfl ?_
                    obtain ⟨f342l, f342h, -⟩ := pw_obj (c := 125) h311I rfl
                    refine pw_call (m' := 248) (As := [.ref 141, pw_i (dp + 1)]) (rest := []) (ls'' := [some (.ref 141), some (pw_i (dp + 1)), none]) (by omega) E rfl (fun _ => pw_iV rfl rfl rfl rfl (pw_cellI f342h rfl)) (rfl : pm_ent 248 = some (2, 3, 12, 4, pmc_248)) rfl rfl ((hT (by omega)).2 (by omega) h311I h311A (by omega)) ?_
                    rintro h343 v344 ⟨h343I, h343E, ⟨h343A, h343R⟩, rfl⟩
                    refine ⟨_, rfl, ?_⟩
                    have h343F := h311F.tr (h343E.wk (W' := [125, 146, 147]) (by first | rfl | simp))
                    show pw X d h343 252 125 [some (.ref 141), some (pw_i dp), some (pw_i x7), some (pw_i 1)] [] _
                    have R345 : pw_R 1 0 1 h h343 := R336.tr (h343R : pw_R 0 0 1 h311 h343) (by decide) (by decide) (by decide)
                    have hA346 : pw_g h343 125 7 ≤ n ∧ 0 ≤ pw_g h343 125 8 ∧ 0 ≤ pw_g h343 125 7 ∧ 0 ≤ pw_g h343 125 32 := h343A.2.2
                    have hA347 : pw_g h 125 7 - pw_g h 125 32 + 1 ≤ pw_g h343 125 7 - pw_g h343 125 32 := R345.1.2.2.2.1
                    have hA348 : pw_g h311 125 7 ≤ pw_g h343 125 7 := h343R.1.2.1
                    have hA348z : pw_g h343 125 8 = 0 → pw_g h311 125 8 = 0 := h343R.1.1
                    refine pw_ld E (pc' := 126) (st' := [.ref 141]) rfl (fun _ => rfl) ?_
                    refine pw_bip E (pc' := 128) rfl rfl (by decide) ?_
                    obtain ⟨f349l, f349h, -⟩ := pw_obj (c := 125) h343I rfl
                    refine pw_call (m' := 257) (As := [.ref 141, pw_i 41]) (rest := []) (ls'' := [some (.ref 141), some (pw_i 41)]) (by omega) E rfl (fun _ => pw_iV rfl rfl rfl rfl (pw_cellI f349h rfl)) (rfl : pm_ent 257 = some (2, 2, 12, 4, pmc_257)) rfl rfl (cm_257 (by omega) h343I h343A (41) (by omega) (by omega)) ?_
                    rintro h350 v351 ⟨h350I, h350E, ⟨h350A, h350R⟩, rfl⟩
                    refine ⟨_, rfl, ?_⟩
                    have h350F := h343F.tr (h350E.wk (W' := [125, 146, 147]) (by first | rfl | simp))
                    show pw X d h350 252 131 [some (.ref 141), some (pw_i dp), some (pw_i x7), some (pw_i 1)] [] _
                    have R352 : pw_R 1 0 1 h h350 := R345.tr (h350R : pw_R 0 0 0 h343 h350) (by decide) (by decide) (by decide)
                    have hA353 : pw_g h350 125 7 ≤ n ∧ 0 ≤ pw_g h350 125 8 ∧ 0 ≤ pw_g h350 125 7 ∧ 0 ≤ pw_g h350 125 32 := h350A.2.2
                    have hA354 : pw_g h 125 7 - pw_g h 125 32 + 1 ≤ pw_g h350 125 7 - pw_g h350 125 32 := R352.1.2.2.2.1
                    have hA355 : pw_g h343 125 7 ≤ pw_g h350 125 7 := h350R.1.2.1
                    have hA355z : pw_g h350 125 8 = 0 → pw_g h343 125 8 = 0 := h350R.1.1
                    refine pw_goto E (pc' := 175) rfl (by decide) ?_
                    refine pw_vret E rfl ?_
                    exact ⟨h350I, h350F, ⟨h350A, R352.wk (by decide)⟩, rfl⟩
              · intro hc356
                change ¬ (x308 = (0 : Int)) at hc356
                exfalso; omega
            · refine ⟨_, rfl, ?_⟩
              have h306F := E0.tr (h306E.wk (W' := [125, 146, 147]) (by first | rfl | simp))
              change x308 = 1 at x308b
              have R357 : pw_R 1 0 0 h h306 := R0.tr (h306R : pw_R 1 0 0 h h306) (by decide) (by decide) (by decide)
              have hA358 : pw_g h306 125 7 ≤ n ∧ 0 ≤ pw_g h306 125 8 ∧ 0 ≤ pw_g h306 125 7 ∧ 0 ≤ pw_g h306 125 32 := h306A.2.2
              have hA359 : pw_g h 125 7 - pw_g h 125 32 + 1 ≤ pw_g h306 125 7 - pw_g h306 125 32 := R357.1.2.2.2.1
              have hA360 : pw_g h 125 7 ≤ pw_g h306 125 7 := h306R.1.2.1
              have hA360z : pw_g h306 125 8 = 0 → pw_g h 125 8 = 0 := h306R.1.1
              show pw X d h306 252 90 [some (.ref 141), some (pw_i dp), some (pw_i x7), some (pw_i 1)] [pw_i x308] _
              refine pw_if E (pc' := 109) rfl (by decide) (by omega) (by omega) ?_ ?_
              · intro hc361
                change x308 = (0 : Int) at hc361
                exfalso; omega
              · intro hc362
                change ¬ (x308 = (0 : Int)) at hc362
                refine pw_ld E (pc' := 94) (st' := [.ref 141]) rfl (fun _ => rfl) ?_
                refine pw_ld E (pc' := 95) (st' := [pw_i dp, .ref 141]) rfl (fun _ => rfl) ?_
                refine pw_ld E (pc' := 96) (st' := [pw_i 1, pw_i dp, .ref 141]) rfl (fun _ => rfl) ?_
                refine pw_add E (pc' := 97) rfl rfl ?_
                obtain ⟨f363l, f363h, -⟩ := pw_obj (c := 125) h306I rfl
                refine pw_call (m' := 252) (As := [.ref 141, pw_i (dp + 1)]) (rest := []) (ls'' := [some (.ref 141), some (pw_i (dp + 1)), none, none]) (by omega) E rfl (fun _ => pw_iV rfl rfl rfl rfl (pw_cellI f363h rfl)) (rfl : pm_ent 252 = some (2, 4, 12, 4, pmc_252)) rfl rfl ((hT (by omega)).1 (by omega) h306I h306A (by omega)) ?_
                rintro h364 v365 ⟨h364I, h364E, ⟨h364A, h364R⟩, rfl⟩
                refine ⟨_, rfl, ?_⟩
                have h364F := h306F.tr (h364E.wk (W' := [125, 146, 147]) (by first | rfl | simp))
                show pw X d h364 252 100 [some (.ref 141), some (pw_i dp), some (pw_i x7), some (pw_i 1)] [] _
                have R366 : pw_R 1 0 1 h h364 := R357.tr (h364R : pw_R 0 0 1 h306 h364) (by decide) (by decide) (by decide)
                have hA367 : pw_g h364 125 7 ≤ n ∧ 0 ≤ pw_g h364 125 8 ∧ 0 ≤ pw_g h364 125 7 ∧ 0 ≤ pw_g h364 125 32 := h364A.2.2
                have hA368 : pw_g h 125 7 - pw_g h 125 32 + 1 ≤ pw_g h364 125 7 - pw_g h364 125 32 := R366.1.2.2.2.1
                have hA369 : pw_g h306 125 7 ≤ pw_g h364 125 7 := h364R.1.2.1
                have hA369z : pw_g h364 125 8 = 0 → pw_g h306 125 8 = 0 := h364R.1.1
                refine pw_ld E (pc' := 101) (st' := [.ref 141]) rfl (fun _ => rfl) ?_
                refine pw_ld E (pc' := 102) (st' := [pw_i 3, .ref 141]) rfl (fun _ => rfl) ?_
                refine pw_ld E (pc' := 103) (st' := [pw_i 0, pw_i 3, .ref 141]) rfl (fun _ => rfl) ?_
                obtain ⟨f370l, f370h, -⟩ := pw_obj (c := 125) h364I rfl
                refine pw_call (m' := 255) (As := [.ref 141, pw_i 3, pw_i 0]) (rest := []) (ls'' := [some (.ref 141), some (pw_i 3), some (pw_i 0)]) (by omega) E rfl (fun _ => pw_iV rfl rfl rfl rfl (pw_cellI f370h rfl)) (rfl : pm_ent 255 = some (3, 3, 12, 4, pmc_255)) rfl rfl (cm_255 (by omega) h364I h364A (by omega) (3) (by omega) (by omega) (0) (by omega) (by omega)) ?_
                rintro h371 v372 ⟨h371I, h371E, ⟨h3718, h3717, h371c, h371o, h371g, h371u⟩, rfl⟩
                refine ⟨_, rfl, ?_⟩
                have h371F := h364F.tr (h371E.wk (W' := [125, 146, 147]) (by first | rfl | simp))
                show pw X d h371 252 106 [some (.ref 141), some (pw_i dp), some (pw_i x7), some (pw_i 1)] [] _
                have h371A : pw_A n h371 := ⟨hn1, by rw [pw_Eg (c := 127) h364I h371E rfl rfl]; exact h364A.2.1, by omega, by omega, by omega, by omega⟩
                have h371R : pw_R (-1) 1 0 h364 h371 := pw_R.emit (c := 3) (Or.inr (Or.inl ⟨rfl, rfl, rfl⟩)) (by omega) (by omega) h3718 h3717 h371c h371o h371u
                have R373 : pw_R 0 0 1 h h371 := R366.tr (h371R : pw_R (-1) 1 0 h364 h371) (by decide) (by decide) (by decide)
                have hA374 : pw_g h371 125 7 ≤ n ∧ 0 ≤ pw_g h371 125 8 ∧ 0 ≤ pw_g h371 125 7 ∧ 0 ≤ pw_g h371 125 32 := h371A.2.2
                have hA375 : pw_g h 125 7 - pw_g h 125 32 + 0 ≤ pw_g h371 125 7 - pw_g h371 125 32 := R373.1.2.2.2.1
                have hA376 : pw_g h364 125 7 ≤ pw_g h371 125 7 := h371R.1.2.1
                have hA376z : pw_g h371 125 8 = 0 → pw_g h364 125 8 = 0 := h371R.1.1
                refine pw_goto E (pc' := 175) rfl (by decide) ?_
                refine pw_vret E rfl ?_
                exact ⟨h371I, h371F, ⟨h371A, R373.wk (by decide)⟩, rfl⟩
          · intro hc377
            change ¬ (pw_g h 125 8 ≤ (0 : Int)) at hc377
            exfalso; omega
        · intro hc378
          change ¬ (dp ≠ (5 : Int)) at hc378
          refine pw_ld E (pc' := 72) (st' := [.ref 141]) rfl (fun _ => rfl) ?_
          refine pw_ld E (pc' := 73) (st' := [pw_i 5, .ref 141]) rfl (fun _ => rfl) ?_
          obtain ⟨f379l, f379h, -⟩ := pw_obj (c := 125) I rfl
          refine pw_call (m' := 245) (As := [.ref 141, pw_i 5]) (rest := []) (ls'' := [some (.ref 141), some (pw_i 5)]) (by omega) E rfl (fun _ => pw_iV rfl rfl rfl rfl (pw_cellI f379h rfl)) (rfl : pm_ent 245 = some (2, 2, 12, 4, pmc_245)) rfl rfl (cm_245 (by omega) I A (5) (by omega) (by omega)) ?_
          rintro h380 v381 ⟨h380I, h380E, ⟨h380A, h380R, h380z⟩, rfl⟩
          refine ⟨_, rfl, ?_⟩
          have h380F := E0.tr (h380E.wk (W' := [125, 146, 147]) (by first | rfl | simp))
          show pw X d h380 252 76 [some (.ref 141), some (pw_i dp), some (pw_i x7), some (pw_i 1)] [] _
          change 1 ≤ pw_g h380 125 8 at h380z
          have R382 : pw_R 0 0 0 h h380 := R0.tr (h380R : pw_R 0 0 0 h h380) (by decide) (by decide) (by decide)
          have hA383 : pw_g h380 125 7 ≤ n ∧ 0 ≤ pw_g h380 125 8 ∧ 0 ≤ pw_g h380 125 7 ∧ 0 ≤ pw_g h380 125 32 := h380A.2.2
          have hA384 : pw_g h 125 7 - pw_g h 125 32 + 0 ≤ pw_g h380 125 7 - pw_g h380 125 32 := R382.1.2.2.2.1
          have hA385 : pw_g h 125 7 ≤ pw_g h380 125 7 := h380R.1.2.1
          have hA385z : pw_g h380 125 8 = 0 → pw_g h 125 8 = 0 := h380R.1.1
          refine pw_ld E (pc' := 77) (st' := [.ref 141]) rfl (fun _ => rfl) ?_
          refine pw_getI2 h380I E (c := 125) (k := 8) (pc' := 80) rfl rfl rfl rfl rfl rfl (fun hf386a hf386b => ?_)
          refine pw_if E (pc' := 84) rfl (by decide) (by omega) (by omega) ?_ ?_
          · intro hc387
            change pw_g h380 125 8 ≤ (0 : Int) at hc387
            exfalso; omega
          · intro hc388
            change ¬ (pw_g h380 125 8 ≤ (0 : Int)) at hc388
            refine pw_vret E rfl ?_
            exact ⟨h380I, h380F, ⟨h380A, (R382.wk (by decide)).bad (by omega)⟩, rfl⟩
      · intro hc389
        change ¬ ((0 : Int) ≤ x7) at hc389
        refine pw_ld E (pc' := 37) (st' := [pw_i 1]) rfl (fun _ => rfl) ?_
        refine pw_if E (pc' := 66) rfl (by decide) (by decide) (by decide) ?_ ?_
        · intro hc390
          change (1 : Int) ≠ (0 : Int) at hc390
          refine pw_ld E (pc' := 67) (st' := [pw_i dp]) rfl (fun _ => rfl) ?_
          refine pw_ld E (pc' := 68) (st' := [pw_i 5, pw_i dp]) rfl (fun _ => rfl) ?_
          refine pw_if2 E (pc' := 76) rfl (by decide) (by omega) (by omega) (by decide) (by decide) ?_ ?_
          · intro hc391
            change dp ≠ (5 : Int) at hc391
            refine pw_ld E (pc' := 77) (st' := [.ref 141]) rfl (fun _ => rfl) ?_
            refine pw_getI2 I E (c := 125) (k := 8) (pc' := 80) rfl rfl rfl rfl rfl rfl (fun hf392a hf392b => ?_)
            refine pw_if E (pc' := 84) rfl (by decide) (by omega) (by omega) ?_ ?_
            · intro hc393
              change pw_g h 125 8 ≤ (0 : Int) at hc393
              refine pw_ld E (pc' := 85) (st' := [.ref 141]) rfl (fun _ => rfl) ?_
              refine pw_bip E (pc' := 87) rfl rfl (by decide) ?_
              obtain ⟨f394l, f394h, -⟩ := pw_obj (c := 125) I rfl
              refine pw_call (m' := 247) (As := [.ref 141, pw_i 7]) (rest := []) (ls'' := [some (.ref 141), some (pw_i 7), none]) (by omega) E rfl (fun _ => pw_iV rfl rfl rfl rfl (pw_cellI f394h rfl)) (rfl : pm_ent 247 = some (2, 3, 12, 1, pmc_247)) rfl rfl (cm_247 (by omega) I A (7) (by omega) (by omega)) ?_
              rintro h395 v396 ⟨x397, rfl, x397a, ⟨x397b, h395c⟩ | ⟨x397b, h395I, h395E, h395A, h395R, h3957⟩⟩
              · refine ⟨_, rfl, ?_⟩
                subst h395c
                change x397 = pw_wd h 7 at x397a
                change x397 = 0 at x397b
                show pw X d h 252 90 [some (.ref 141), some (pw_i dp), some (pw_i x7), some (pw_i 1)] [pw_i x397] _
                refine pw_if E (pc' := 109) rfl (by decide) (by omega) (by omega) ?_ ?_
                · intro hc398
                  change x397 = (0 : Int) at hc398
                  refine pw_ld E (pc' := 110) (st' := [.ref 141]) rfl (fun _ => rfl) ?_
                  refine pw_bip E (pc' := 112) rfl rfl (by decide) ?_
                  obtain ⟨f399l, f399h, -⟩ := pw_obj (c := 125) I rfl
                  refine pw_call (m' := 256) (As := [.ref 141, pw_i 40]) (rest := []) (ls'' := [some (.ref 141), some (pw_i 40), none]) (by omega) E rfl (fun _ => pw_iV rfl rfl rfl rfl (pw_cellI f399h rfl)) (rfl : pm_ent 256 = some (2, 3, 12, 1, pmc_256)) rfl rfl (cm_256 (by omega) I A (40) (by omega) (by omega)) ?_
                  rintro h400 v401 ⟨x402, rfl, x402a, ⟨x402b, h400c⟩ | ⟨x402b, h400I, h400E, h400A, h400R, h4007⟩⟩
                  · refine ⟨_, rfl, ?_⟩
                    subst h400c
                    change x402 = pw_sg h 40 at x402a
                    change x402 = 0 at x402b
                    show pw X d h 252 115 [some (.ref 141), some (pw_i dp), some (pw_i x7), some (pw_i 1)] [pw_i x402] _
                    refine pw_if E (pc' := 134) rfl (by decide) (by omega) (by omega) ?_ ?_
                    · intro hc403
                      change x402 = (0 : Int) at hc403
                      refine pw_ld E (pc' := 135) (st' := [.ref 141]) rfl (fun _ => rfl) ?_
                      refine pw_ld E (pc' := 136) (st' := [pw_i 1, .ref 141]) rfl (fun _ => rfl) ?_
                      refine pw_if E (pc' := 143) rfl (by decide) (by decide) (by decide) ?_ ?_
                      · intro hc404
                        change (1 : Int) = (0 : Int) at hc404
                        exfalso; omega
                      · intro hc405
                        change ¬ ((1 : Int) = (0 : Int)) at hc405
                        refine pw_ld E (pc' := 140) (st' := [pw_i 1, .ref 141]) rfl (fun _ => rfl) ?_
                        refine pw_goto E (pc' := 144) rfl (by decide) ?_
                        refine pw_ld E (pc' := 145) (st' := [pw_i 1, pw_i 1, .ref 141]) rfl (fun _ => rfl) ?_
                        refine pw_if E (pc' := 161) rfl (by decide) (by decide) (by decide) ?_ ?_
                        · intro hc406
                          change (1 : Int) = (0 : Int) at hc406
                          exfalso; omega
                        · intro hc407
                          change ¬ ((1 : Int) = (0 : Int)) at hc407
                          refine pw_ld E (pc' := 149) (st' := [.ref 141, pw_i 1, .ref 141]) rfl (fun _ => rfl) ?_
                          refine pw_getR (b := 145) I E (c := 125) (k := 6) (pc' := 152) rfl rfl rfl rfl rfl rfl rfl ?_
                          refine pw_ld E (pc' := 153) (st' := [.ref 141, .ref 145, pw_i 1, .ref 141]) rfl (fun _ => rfl) ?_
                          refine pw_getI2 I E (c := 125) (k := 7) (pc' := 156) rfl rfl rfl rfl rfl rfl (fun hf408a hf408b => ?_)
                          refine pw_lald I E (c := 129) (pc' := 157) rfl rfl rfl (by decide) (by omega) (by omega) rfl ?_
                          refine pw_l2i E (pc' := 158) rfl rfl ?_
                          intro x409 hx409a hx409b
                          refine pw_goto E (pc' := 162) rfl (by decide) ?_
                          obtain ⟨f410l, f410h, -⟩ := pw_obj (c := 125) I rfl
                          refine pw_call (m' := 255) (As := [.ref 141, pw_i 1, pw_i x409]) (rest := []) (ls'' := [some (.ref 141), some (pw_i 1), some (pw_i x409)]) (by omega) E rfl (fun _ => pw_iV rfl rfl rfl rfl (pw_cellI f410h rfl)) (rfl : pm_ent 255 = some (3, 3, 12, 4, pmc_255)) rfl rfl (cm_255 (by omega) I A (by omega) (1) (by omega) (by omega) (x409) (by omega) (by omega)) ?_
                          rintro h411 v412 ⟨h411I, h411E, ⟨h4118, h4117, h411c, h411o, h411g, h411u⟩, rfl⟩
                          refine ⟨_, rfl, ?_⟩
                          have h411F := E0.tr (h411E.wk (W' := [125, 146, 147]) (by first | rfl | simp))
                          show pw X d h411 252 165 [some (.ref 141), some (pw_i dp), some (pw_i x7), some (pw_i 1)] [] _
                          have h411A : pw_A n h411 := ⟨hn1, by rw [pw_Eg (c := 127) I h411E rfl rfl]; exact A.2.1, by omega, by omega, by omega, by omega⟩
                          have h411R : pw_R (-1) 0 1 h h411 := pw_R.emit (c := 1) (Or.inl ⟨rfl, rfl, Or.inl rfl⟩) (by omega) (by omega) h4118 h4117 h411c h411o h411u
                          have R413 : pw_R (-1) 0 1 h h411 := R0.tr (h411R : pw_R (-1) 0 1 h h411) (by decide) (by decide) (by decide)
                          have hA414 : pw_g h411 125 7 ≤ n ∧ 0 ≤ pw_g h411 125 8 ∧ 0 ≤ pw_g h411 125 7 ∧ 0 ≤ pw_g h411 125 32 := h411A.2.2
                          have hA415 : pw_g h 125 7 - pw_g h 125 32 + (-1) ≤ pw_g h411 125 7 - pw_g h411 125 32 := R413.1.2.2.2.1
                          have hA416 : pw_g h 125 7 ≤ pw_g h411 125 7 := h411R.1.2.1
                          have hA416z : pw_g h411 125 8 = 0 → pw_g h 125 8 = 0 := h411R.1.1
                          refine pw_ld E (pc' := 166) (st' := [.ref 141]) rfl (fun _ => rfl) ?_
                          refine pw_ld E (pc' := 167) (st' := [.ref 141, .ref 141]) rfl (fun _ => rfl) ?_
                          refine pw_getI2 h411I E (c := 125) (k := 7) (pc' := 170) rfl rfl rfl rfl rfl rfl (fun hf417a hf417b => ?_)
                          refine pw_ld E (pc' := 171) (st' := [pw_i 1, pw_i (pw_g h411 125 7), .ref 141]) rfl (fun _ => rfl) ?_
                          refine pw_add E (pc' := 172) rfl rfl ?_
                          have hlt418 : (pw_g h411 125 7) + 1 ≤ 1001 ∧ (pw_g h411 125 7) + 1 ≤ n := by first | omega | (have := pw_A.lt h411A (by omega); omega) | (have := pw_A.lt A (by omega); omega)
                          refine pw_putI h411I E (c := 125) (k := 7) (pc' := 175) rfl rfl rfl rfl (by omega) (by omega) (by omega) (by omega) rfl rfl ?_
                          intro h419I h419E
                          generalize h419w : pw_w h411 125 7 (pw_i ((pw_g h411 125 7) + 1)) = h419 at h419I h419E ⊢
                          have h419F := h411F.tr (h419E.wk (W' := [125, 146, 147]) (by first | rfl | simp))
                          have h4197 : pw_g h419 125 7 = pw_g h411 125 7 + 1 := by rw [← h419w]; exact pw_g_eq (c := 125) (k := 7) h411I rfl rfl (by omega) (by omega)
                          have h4198 : pw_g h419 125 8 = pw_g h411 125 8 := by rw [← h419w]; exact pw_g_ne (by omega)
                          have h4199 : pw_g h419 125 32 = pw_g h411 125 32 := by rw [← h419w]; exact pw_g_ne (by omega)
                          have h419A : pw_A n h419 := ⟨hn1, by rw [← h419w, pw_g_ne (by omega)]; exact h411A.2.1, by omega, by omega, by omega, by omega⟩
                          have h419R : pw_R 1 0 0 h411 h419 := pw_R.same (by decide) (by omega) (by omega) h4197 h4199 (fun j => by rw [← h419w]; exact pw_g_ne (by omega)) (fun j => by rw [← h419w]; exact pw_g_ne (by omega))
                          have R420 : pw_R 0 0 1 h h419 := R413.tr (h419R : pw_R 1 0 0 h411 h419) (by decide) (by decide) (by decide)
                          have hA421 : pw_g h419 125 7 ≤ n ∧ 0 ≤ pw_g h419 125 8 ∧ 0 ≤ pw_g h419 125 7 ∧ 0 ≤ pw_g h419 125 32 := h419A.2.2
                          have hA422 : pw_g h 125 7 - pw_g h 125 32 + 0 ≤ pw_g h419 125 7 - pw_g h419 125 32 := R420.1.2.2.2.1
                          have hA423 : pw_g h411 125 7 ≤ pw_g h419 125 7 := h419R.1.2.1
                          have hA423z : pw_g h419 125 8 = 0 → pw_g h411 125 8 = 0 := h419R.1.1
                          refine pw_vret E rfl ?_
                          exact ⟨h419I, h419F, ⟨h419A, R420.wk (by decide)⟩, rfl⟩
                    · intro hc424
                      change ¬ (x402 = (0 : Int)) at hc424
                      exfalso; omega
                  · refine ⟨_, rfl, ?_⟩
                    have h400F := E0.tr (h400E.wk (W' := [125, 146, 147]) (by first | rfl | simp))
                    change x402 = 1 at x402b
                    have R425 : pw_R 1 0 0 h h400 := R0.tr (h400R : pw_R 1 0 0 h h400) (by decide) (by decide) (by decide)
                    have hA426 : pw_g h400 125 7 ≤ n ∧ 0 ≤ pw_g h400 125 8 ∧ 0 ≤ pw_g h400 125 7 ∧ 0 ≤ pw_g h400 125 32 := h400A.2.2
                    have hA427 : pw_g h 125 7 - pw_g h 125 32 + 1 ≤ pw_g h400 125 7 - pw_g h400 125 32 := R425.1.2.2.2.1
                    have hA428 : pw_g h 125 7 ≤ pw_g h400 125 7 := h400R.1.2.1
                    have hA428z : pw_g h400 125 8 = 0 → pw_g h 125 8 = 0 := h400R.1.1
                    show pw X d h400 252 115 [some (.ref 141), some (pw_i dp), some (pw_i x7), some (pw_i 1)] [pw_i x402] _
                    refine pw_if E (pc' := 134) rfl (by decide) (by omega) (by omega) ?_ ?_
                    · intro hc429
                      change x402 = (0 : Int) at hc429
                      exfalso; omega
                    · intro hc430
                      change ¬ (x402 = (0 : Int)) at hc430
                      refine pw_ld E (pc' := 119) (st' := [.ref 141]) rfl (fun _ => rfl) ?_
                      refine pw_ld E (pc' := 120) (st' := [pw_i dp, .ref 141]) rfl (fun _ => rfl) ?_
                      refine pw_ld E (pc' := 121) (st' := [pw_i 1, pw_i dp, .ref 141]) rfl (fun _ => rfl) ?_
                      refine pw_add E (pc' := 122) rfl rfl ?_
                      obtain ⟨f431l, f431h, -⟩ := pw_obj (c := 125) h400I rfl
                      refine pw_call (m' := 248) (As := [.ref 141, pw_i (dp + 1)]) (rest := []) (ls'' := [some (.ref 141), some (pw_i (dp + 1)), none]) (by omega) E rfl (fun _ => pw_iV rfl rfl rfl rfl (pw_cellI f431h rfl)) (rfl : pm_ent 248 = some (2, 3, 12, 4, pmc_248)) rfl rfl ((hT (by omega)).2 (by omega) h400I h400A (by omega)) ?_
                      rintro h432 v433 ⟨h432I, h432E, ⟨h432A, h432R⟩, rfl⟩
                      refine ⟨_, rfl, ?_⟩
                      have h432F := h400F.tr (h432E.wk (W' := [125, 146, 147]) (by first | rfl | simp))
                      show pw X d h432 252 125 [some (.ref 141), some (pw_i dp), some (pw_i x7), some (pw_i 1)] [] _
                      have R434 : pw_R 1 0 1 h h432 := R425.tr (h432R : pw_R 0 0 1 h400 h432) (by decide) (by decide) (by decide)
                      have hA435 : pw_g h432 125 7 ≤ n ∧ 0 ≤ pw_g h432 125 8 ∧ 0 ≤ pw_g h432 125 7 ∧ 0 ≤ pw_g h432 125 32 := h432A.2.2
                      have hA436 : pw_g h 125 7 - pw_g h 125 32 + 1 ≤ pw_g h432 125 7 - pw_g h432 125 32 := R434.1.2.2.2.1
                      have hA437 : pw_g h400 125 7 ≤ pw_g h432 125 7 := h432R.1.2.1
                      have hA437z : pw_g h432 125 8 = 0 → pw_g h400 125 8 = 0 := h432R.1.1
                      refine pw_ld E (pc' := 126) (st' := [.ref 141]) rfl (fun _ => rfl) ?_
                      refine pw_bip E (pc' := 128) rfl rfl (by decide) ?_
                      obtain ⟨f438l, f438h, -⟩ := pw_obj (c := 125) h432I rfl
                      refine pw_call (m' := 257) (As := [.ref 141, pw_i 41]) (rest := []) (ls'' := [some (.ref 141), some (pw_i 41)]) (by omega) E rfl (fun _ => pw_iV rfl rfl rfl rfl (pw_cellI f438h rfl)) (rfl : pm_ent 257 = some (2, 2, 12, 4, pmc_257)) rfl rfl (cm_257 (by omega) h432I h432A (41) (by omega) (by omega)) ?_
                      rintro h439 v440 ⟨h439I, h439E, ⟨h439A, h439R⟩, rfl⟩
                      refine ⟨_, rfl, ?_⟩
                      have h439F := h432F.tr (h439E.wk (W' := [125, 146, 147]) (by first | rfl | simp))
                      show pw X d h439 252 131 [some (.ref 141), some (pw_i dp), some (pw_i x7), some (pw_i 1)] [] _
                      have R441 : pw_R 1 0 1 h h439 := R434.tr (h439R : pw_R 0 0 0 h432 h439) (by decide) (by decide) (by decide)
                      have hA442 : pw_g h439 125 7 ≤ n ∧ 0 ≤ pw_g h439 125 8 ∧ 0 ≤ pw_g h439 125 7 ∧ 0 ≤ pw_g h439 125 32 := h439A.2.2
                      have hA443 : pw_g h 125 7 - pw_g h 125 32 + 1 ≤ pw_g h439 125 7 - pw_g h439 125 32 := R441.1.2.2.2.1
                      have hA444 : pw_g h432 125 7 ≤ pw_g h439 125 7 := h439R.1.2.1
                      have hA444z : pw_g h439 125 8 = 0 → pw_g h432 125 8 = 0 := h439R.1.1
                      refine pw_goto E (pc' := 175) rfl (by decide) ?_
                      refine pw_vret E rfl ?_
                      exact ⟨h439I, h439F, ⟨h439A, R441.wk (by decide)⟩, rfl⟩
                · intro hc445
                  change ¬ (x397 = (0 : Int)) at hc445
                  exfalso; omega
              · refine ⟨_, rfl, ?_⟩
                have h395F := E0.tr (h395E.wk (W' := [125, 146, 147]) (by first | rfl | simp))
                change x397 = 1 at x397b
                have R446 : pw_R 1 0 0 h h395 := R0.tr (h395R : pw_R 1 0 0 h h395) (by decide) (by decide) (by decide)
                have hA447 : pw_g h395 125 7 ≤ n ∧ 0 ≤ pw_g h395 125 8 ∧ 0 ≤ pw_g h395 125 7 ∧ 0 ≤ pw_g h395 125 32 := h395A.2.2
                have hA448 : pw_g h 125 7 - pw_g h 125 32 + 1 ≤ pw_g h395 125 7 - pw_g h395 125 32 := R446.1.2.2.2.1
                have hA449 : pw_g h 125 7 ≤ pw_g h395 125 7 := h395R.1.2.1
                have hA449z : pw_g h395 125 8 = 0 → pw_g h 125 8 = 0 := h395R.1.1
                show pw X d h395 252 90 [some (.ref 141), some (pw_i dp), some (pw_i x7), some (pw_i 1)] [pw_i x397] _
                refine pw_if E (pc' := 109) rfl (by decide) (by omega) (by omega) ?_ ?_
                · intro hc450
                  change x397 = (0 : Int) at hc450
                  exfalso; omega
                · intro hc451
                  change ¬ (x397 = (0 : Int)) at hc451
                  refine pw_ld E (pc' := 94) (st' := [.ref 141]) rfl (fun _ => rfl) ?_
                  refine pw_ld E (pc' := 95) (st' := [pw_i dp, .ref 141]) rfl (fun _ => rfl) ?_
                  refine pw_ld E (pc' := 96) (st' := [pw_i 1, pw_i dp, .ref 141]) rfl (fun _ => rfl) ?_
                  refine pw_add E (pc' := 97) rfl rfl ?_
                  obtain ⟨f452l, f452h, -⟩ := pw_obj (c := 125) h395I rfl
                  refine pw_call (m' := 252) (As := [.ref 141, pw_i (dp + 1)]) (rest := []) (ls'' := [some (.ref 141), some (pw_i (dp + 1)), none, none]) (by omega) E rfl (fun _ => pw_iV rfl rfl rfl rfl (pw_cellI f452h rfl)) (rfl : pm_ent 252 = some (2, 4, 12, 4, pmc_252)) rfl rfl ((hT (by omega)).1 (by omega) h395I h395A (by omega)) ?_
                  rintro h453 v454 ⟨h453I, h453E, ⟨h453A, h453R⟩, rfl⟩
                  refine ⟨_, rfl, ?_⟩
                  have h453F := h395F.tr (h453E.wk (W' := [125, 146, 147]) (by first | rfl | simp))
                  show pw X d h453 252 100 [some (.ref 141), some (pw_i dp), some (pw_i x7), some (pw_i 1)] [] _
                  have R455 : pw_R 1 0 1 h h453 := R446.tr (h453R : pw_R 0 0 1 h395 h453) (by decide) (by decide) (by decide)
                  have hA456 : pw_g h453 125 7 ≤ n ∧ 0 ≤ pw_g h453 125 8 ∧ 0 ≤ pw_g h453 125 7 ∧ 0 ≤ pw_g h453 125 32 := h453A.2.2
                  have hA457 : pw_g h 125 7 - pw_g h 125 32 + 1 ≤ pw_g h453 125 7 - pw_g h453 125 32 := R455.1.2.2.2.1
                  have hA458 : pw_g h395 125 7 ≤ pw_g h453 125 7 := h453R.1.2.1
                  have hA458z : pw_g h453 125 8 = 0 → pw_g h395 125 8 = 0 := h453R.1.1
                  refine pw_ld E (pc' := 101) (st' := [.ref 141]) rfl (fun _ => rfl) ?_
                  refine pw_ld E (pc' := 102) (st' := [pw_i 3, .ref 141]) rfl (fun _ => rfl) ?_
                  refine pw_ld E (pc' := 103) (st' := [pw_i 0, pw_i 3, .ref 141]) rfl (fun _ => rfl) ?_
                  obtain ⟨f459l, f459h, -⟩ := pw_obj (c := 125) h453I rfl
                  refine pw_call (m' := 255) (As := [.ref 141, pw_i 3, pw_i 0]) (rest := []) (ls'' := [some (.ref 141), some (pw_i 3), some (pw_i 0)]) (by omega) E rfl (fun _ => pw_iV rfl rfl rfl rfl (pw_cellI f459h rfl)) (rfl : pm_ent 255 = some (3, 3, 12, 4, pmc_255)) rfl rfl (cm_255 (by omega) h453I h453A (by omega) (3) (by omega) (by omega) (0) (by omega) (by omega)) ?_
                  rintro h460 v461 ⟨h460I, h460E, ⟨h4608, h4607, h460c, h460o, h460g, h460u⟩, rfl⟩
                  refine ⟨_, rfl, ?_⟩
                  have h460F := h453F.tr (h460E.wk (W' := [125, 146, 147]) (by first | rfl | simp))
                  show pw X d h460 252 106 [some (.ref 141), some (pw_i dp), some (pw_i x7), some (pw_i 1)] [] _
                  have h460A : pw_A n h460 := ⟨hn1, by rw [pw_Eg (c := 127) h453I h460E rfl rfl]; exact h453A.2.1, by omega, by omega, by omega, by omega⟩
                  have h460R : pw_R (-1) 1 0 h453 h460 := pw_R.emit (c := 3) (Or.inr (Or.inl ⟨rfl, rfl, rfl⟩)) (by omega) (by omega) h4608 h4607 h460c h460o h460u
                  have R462 : pw_R 0 0 1 h h460 := R455.tr (h460R : pw_R (-1) 1 0 h453 h460) (by decide) (by decide) (by decide)
                  have hA463 : pw_g h460 125 7 ≤ n ∧ 0 ≤ pw_g h460 125 8 ∧ 0 ≤ pw_g h460 125 7 ∧ 0 ≤ pw_g h460 125 32 := h460A.2.2
                  have hA464 : pw_g h 125 7 - pw_g h 125 32 + 0 ≤ pw_g h460 125 7 - pw_g h460 125 32 := R462.1.2.2.2.1
                  have hA465 : pw_g h453 125 7 ≤ pw_g h460 125 7 := h460R.1.2.1
                  have hA465z : pw_g h460 125 8 = 0 → pw_g h453 125 8 = 0 := h460R.1.1
                  refine pw_goto E (pc' := 175) rfl (by decide) ?_
                  refine pw_vret E rfl ?_
                  exact ⟨h460I, h460F, ⟨h460A, R462.wk (by decide)⟩, rfl⟩
            · intro hc466
              change ¬ (pw_g h 125 8 ≤ (0 : Int)) at hc466
              exfalso; omega
          · intro hc467
            change ¬ (dp ≠ (5 : Int)) at hc467
            refine pw_ld E (pc' := 72) (st' := [.ref 141]) rfl (fun _ => rfl) ?_
            refine pw_ld E (pc' := 73) (st' := [pw_i 5, .ref 141]) rfl (fun _ => rfl) ?_
            obtain ⟨f468l, f468h, -⟩ := pw_obj (c := 125) I rfl
            refine pw_call (m' := 245) (As := [.ref 141, pw_i 5]) (rest := []) (ls'' := [some (.ref 141), some (pw_i 5)]) (by omega) E rfl (fun _ => pw_iV rfl rfl rfl rfl (pw_cellI f468h rfl)) (rfl : pm_ent 245 = some (2, 2, 12, 4, pmc_245)) rfl rfl (cm_245 (by omega) I A (5) (by omega) (by omega)) ?_
            rintro h469 v470 ⟨h469I, h469E, ⟨h469A, h469R, h469z⟩, rfl⟩
            refine ⟨_, rfl, ?_⟩
            have h469F := E0.tr (h469E.wk (W' := [125, 146, 147]) (by first | rfl | simp))
            show pw X d h469 252 76 [some (.ref 141), some (pw_i dp), some (pw_i x7), some (pw_i 1)] [] _
            change 1 ≤ pw_g h469 125 8 at h469z
            have R471 : pw_R 0 0 0 h h469 := R0.tr (h469R : pw_R 0 0 0 h h469) (by decide) (by decide) (by decide)
            have hA472 : pw_g h469 125 7 ≤ n ∧ 0 ≤ pw_g h469 125 8 ∧ 0 ≤ pw_g h469 125 7 ∧ 0 ≤ pw_g h469 125 32 := h469A.2.2
            have hA473 : pw_g h 125 7 - pw_g h 125 32 + 0 ≤ pw_g h469 125 7 - pw_g h469 125 32 := R471.1.2.2.2.1
            have hA474 : pw_g h 125 7 ≤ pw_g h469 125 7 := h469R.1.2.1
            have hA474z : pw_g h469 125 8 = 0 → pw_g h 125 8 = 0 := h469R.1.1
            refine pw_ld E (pc' := 77) (st' := [.ref 141]) rfl (fun _ => rfl) ?_
            refine pw_getI2 h469I E (c := 125) (k := 8) (pc' := 80) rfl rfl rfl rfl rfl rfl (fun hf475a hf475b => ?_)
            refine pw_if E (pc' := 84) rfl (by decide) (by omega) (by omega) ?_ ?_
            · intro hc476
              change pw_g h469 125 8 ≤ (0 : Int) at hc476
              exfalso; omega
            · intro hc477
              change ¬ (pw_g h469 125 8 ≤ (0 : Int)) at hc477
              refine pw_vret E rfl ?_
              exact ⟨h469I, h469F, ⟨h469A, (R471.wk (by decide)).bad (by omega)⟩, rfl⟩
        · intro hc478
          change ¬ ((1 : Int) ≠ (0 : Int)) at hc478
          exfalso; omega
  · intro hc479
    change ¬ (pw_g h 125 8 ≤ (0 : Int)) at hc479
    refine pw_vret E rfl ?_
    exact ⟨I, E0, ⟨A, (R0.wk (by decide)).bad (by omega)⟩, rfl⟩
set_option maxHeartbeats 4000000 in
theorem cm_251 {X : List (Nat × List Value)} (dp : Int) (hdp1 : 0 ≤ dp) (hdp2 : dp ≤ 5) (hT : pw_C252 X dp) {d : Nat} {h : pm_H} (hd : (29 - 5 * dp : Int) ≤ d) (I : pw_I h) {n : Nat} (A : pw_A n h) (hs : pw_g h 125 32 ≤ pw_g h 125 7) : pw X d h 251 0 [some (.ref 141), some (pw_i dp)] [] (fun h' v => pw_I h' ∧ pw_E [125, 146, 147] h h' ∧ (pw_A n h' ∧ pw_R 0 0 1 h h') ∧ (v = .inl none)) := by
  have E : pm_ent 251 = some (2, 2, 12, 4, pmc_251) := rfl
  have E0 : pw_E [125, 146, 147] h h := pw_E.rf _ _
  have R0 : pw_R 0 0 0 h h := pw_R.rf A.2.2.2.2.2
  have hn1 : n ≤ 1000 := A.1
  have hA1 : pw_g h 125 7 ≤ n ∧ 0 ≤ pw_g h 125 8 ∧ 0 ≤ pw_g h 125 7 ∧ 0 ≤ pw_g h 125 32 := A.2.2
  refine pw_ld E (pc' := 1) (st' := [.ref 141]) rfl (fun _ => rfl) ?_
  refine pw_ld E (pc' := 2) (st' := [pw_i dp, .ref 141]) rfl (fun _ => rfl) ?_
  obtain ⟨f2l, f2h, -⟩ := pw_obj (c := 125) I rfl
  refine pw_call (m' := 252) (As := [.ref 141, pw_i dp]) (rest := []) (ls'' := [some (.ref 141), some (pw_i dp), none, none]) (by omega) E rfl (fun _ => pw_iV rfl rfl rfl rfl (pw_cellI f2h rfl)) (rfl : pm_ent 252 = some (2, 4, 12, 4, pmc_252)) rfl rfl (hT (by omega) I A (by omega)) ?_
  rintro h3 v4 ⟨h3I, h3E, ⟨h3A, h3R⟩, rfl⟩
  refine ⟨_, rfl, ?_⟩
  have h3F := E0.tr (h3E.wk (W' := [125, 146, 147]) (by first | rfl | simp))
  show pw X d h3 251 5 [some (.ref 141), some (pw_i dp)] [] _
  have R5 : pw_R 0 0 1 h h3 := R0.tr (h3R : pw_R 0 0 1 h h3) (by decide) (by decide) (by decide)
  have hA6 : pw_g h3 125 7 ≤ n ∧ 0 ≤ pw_g h3 125 8 ∧ 0 ≤ pw_g h3 125 7 ∧ 0 ≤ pw_g h3 125 32 := h3A.2.2
  have hA7 : pw_g h 125 7 - pw_g h 125 32 + 0 ≤ pw_g h3 125 7 - pw_g h3 125 32 := R5.1.2.2.2.1
  have hA8 : pw_g h 125 7 ≤ pw_g h3 125 7 := h3R.1.2.1
  have hA8z : pw_g h3 125 8 = 0 → pw_g h 125 8 = 0 := h3R.1.1
  have L5 : ∀ (n5 : Nat)  (gh5 : pm_H), pw_I gh5 → pw_E [125, 146, 147] h gh5 → pw_A n gh5 → pw_R 0 0 1 h gh5 → ((n : Int) - pw_g gh5 125 7).toNat = n5 → pw X d gh5 251 5 [some (.ref 141), some (pw_i dp)] [] (fun h' v => pw_I h' ∧ pw_E [125, 146, 147] h h' ∧ (pw_A n h' ∧ pw_R 0 0 1 h h') ∧ (v = .inl none)) := by
    intro n5
    induction n5 using Nat.strongRecOn with
    | ind n5 ih5 =>
      intro  gh5 I5 E5 A5 R5 hm5
      have hAh5 : pw_g gh5 125 7 ≤ n ∧ 0 ≤ pw_g gh5 125 8 ∧ 0 ≤ pw_g gh5 125 7 ∧ 0 ≤ pw_g gh5 125 32 := A5.2.2
      have hAi5 : pw_g h 125 7 - pw_g h 125 32 + 0 ≤ pw_g gh5 125 7 - pw_g gh5 125 32 := R5.1.2.2.2.1
      refine pw_ld E (pc' := 6) (st' := [.ref 141]) rfl (fun _ => rfl) ?_
      refine pw_bip E (pc' := 8) rfl rfl (by decide) ?_
      obtain ⟨f9l, f9h, -⟩ := pw_obj (c := 125) I5 rfl
      refine pw_call (m' := 256) (As := [.ref 141, pw_i 42]) (rest := []) (ls'' := [some (.ref 141), some (pw_i 42), none]) (by omega) E rfl (fun _ => pw_iV rfl rfl rfl rfl (pw_cellI f9h rfl)) (rfl : pm_ent 256 = some (2, 3, 12, 1, pmc_256)) rfl rfl (cm_256 (by omega) I5 A5 (42) (by omega) (by omega)) ?_
      rintro h10 v11 ⟨x12, rfl, x12a, ⟨x12b, h10c⟩ | ⟨x12b, h10I, h10E, h10A, h10R, h107⟩⟩
      · refine ⟨_, rfl, ?_⟩
        subst h10c
        change x12 = pw_sg gh5 42 at x12a
        change x12 = 0 at x12b
        show pw X d gh5 251 11 [some (.ref 141), some (pw_i dp)] [pw_i x12] _
        refine pw_if E (pc' := 29) rfl (by decide) (by omega) (by omega) ?_ ?_
        · intro hc13
          change x12 = (0 : Int) at hc13
          refine pw_vret E rfl ?_
          exact ⟨I5, E5, ⟨A5, R5.wk (by decide)⟩, rfl⟩
        · intro hc14
          change ¬ (x12 = (0 : Int)) at hc14
          exfalso; omega
      · refine ⟨_, rfl, ?_⟩
        have h10F := E5.tr (h10E.wk (W' := [125, 146, 147]) (by first | rfl | simp))
        change x12 = 1 at x12b
        have R15 : pw_R 1 0 1 h h10 := R5.tr (h10R : pw_R 1 0 0 gh5 h10) (by decide) (by decide) (by decide)
        have hA16 : pw_g h10 125 7 ≤ n ∧ 0 ≤ pw_g h10 125 8 ∧ 0 ≤ pw_g h10 125 7 ∧ 0 ≤ pw_g h10 125 32 := h10A.2.2
        have hA17 : pw_g h 125 7 - pw_g h 125 32 + 1 ≤ pw_g h10 125 7 - pw_g h10 125 32 := R15.1.2.2.2.1
        have hA18 : pw_g gh5 125 7 ≤ pw_g h10 125 7 := h10R.1.2.1
        have hA18z : pw_g h10 125 8 = 0 → pw_g gh5 125 8 = 0 := h10R.1.1
        show pw X d h10 251 11 [some (.ref 141), some (pw_i dp)] [pw_i x12] _
        refine pw_if E (pc' := 29) rfl (by decide) (by omega) (by omega) ?_ ?_
        · intro hc19
          change x12 = (0 : Int) at hc19
          exfalso; omega
        · intro hc20
          change ¬ (x12 = (0 : Int)) at hc20
          refine pw_ld E (pc' := 15) (st' := [.ref 141]) rfl (fun _ => rfl) ?_
          refine pw_ld E (pc' := 16) (st' := [pw_i dp, .ref 141]) rfl (fun _ => rfl) ?_
          obtain ⟨f21l, f21h, -⟩ := pw_obj (c := 125) h10I rfl
          refine pw_call (m' := 252) (As := [.ref 141, pw_i dp]) (rest := []) (ls'' := [some (.ref 141), some (pw_i dp), none, none]) (by omega) E rfl (fun _ => pw_iV rfl rfl rfl rfl (pw_cellI f21h rfl)) (rfl : pm_ent 252 = some (2, 4, 12, 4, pmc_252)) rfl rfl (hT (by omega) h10I h10A (by omega)) ?_
          rintro h22 v23 ⟨h22I, h22E, ⟨h22A, h22R⟩, rfl⟩
          refine ⟨_, rfl, ?_⟩
          have h22F := h10F.tr (h22E.wk (W' := [125, 146, 147]) (by first | rfl | simp))
          show pw X d h22 251 19 [some (.ref 141), some (pw_i dp)] [] _
          have R24 : pw_R 1 0 2 h h22 := R15.tr (h22R : pw_R 0 0 1 h10 h22) (by decide) (by decide) (by decide)
          have hA25 : pw_g h22 125 7 ≤ n ∧ 0 ≤ pw_g h22 125 8 ∧ 0 ≤ pw_g h22 125 7 ∧ 0 ≤ pw_g h22 125 32 := h22A.2.2
          have hA26 : pw_g h 125 7 - pw_g h 125 32 + 1 ≤ pw_g h22 125 7 - pw_g h22 125 32 := R24.1.2.2.2.1
          have hA27 : pw_g h10 125 7 ≤ pw_g h22 125 7 := h22R.1.2.1
          have hA27z : pw_g h22 125 8 = 0 → pw_g h10 125 8 = 0 := h22R.1.1
          refine pw_ld E (pc' := 20) (st' := [.ref 141]) rfl (fun _ => rfl) ?_
          refine pw_bip E (pc' := 22) rfl rfl (by decide) ?_
          refine pw_ld E (pc' := 23) (st' := [pw_i 0, pw_i 6, .ref 141]) rfl (fun _ => rfl) ?_
          obtain ⟨f28l, f28h, -⟩ := pw_obj (c := 125) h22I rfl
          refine pw_call (m' := 255) (As := [.ref 141, pw_i 6, pw_i 0]) (rest := []) (ls'' := [some (.ref 141), some (pw_i 6), some (pw_i 0)]) (by omega) E rfl (fun _ => pw_iV rfl rfl rfl rfl (pw_cellI f28h rfl)) (rfl : pm_ent 255 = some (3, 3, 12, 4, pmc_255)) rfl rfl (cm_255 (by omega) h22I h22A (by omega) (6) (by omega) (by omega) (0) (by omega) (by omega)) ?_
          rintro h29 v30 ⟨h29I, h29E, ⟨h298, h297, h29c, h29o, h29g, h29u⟩, rfl⟩
          refine ⟨_, rfl, ?_⟩
          have h29F := h22F.tr (h29E.wk (W' := [125, 146, 147]) (by first | rfl | simp))
          show pw X d h29 251 26 [some (.ref 141), some (pw_i dp)] [] _
          have h29A : pw_A n h29 := ⟨hn1, by rw [pw_Eg (c := 127) h22I h29E rfl rfl]; exact h22A.2.1, by omega, by omega, by omega, by omega⟩
          have h29R : pw_R (-1) 2 (-1) h22 h29 := pw_R.emit (c := 6) (Or.inr (Or.inr ⟨rfl, rfl, by decide⟩)) (by omega) (by omega) h298 h297 h29c h29o h29u
          have R31 : pw_R 0 0 1 h h29 := R24.tr (h29R : pw_R (-1) 2 (-1) h22 h29) (by decide) (by decide) (by decide)
          have hA32 : pw_g h29 125 7 ≤ n ∧ 0 ≤ pw_g h29 125 8 ∧ 0 ≤ pw_g h29 125 7 ∧ 0 ≤ pw_g h29 125 32 := h29A.2.2
          have hA33 : pw_g h 125 7 - pw_g h 125 32 + 0 ≤ pw_g h29 125 7 - pw_g h29 125 32 := R31.1.2.2.2.1
          have hA34 : pw_g h22 125 7 ≤ pw_g h29 125 7 := h29R.1.2.1
          have hA34z : pw_g h29 125 8 = 0 → pw_g h22 125 8 = 0 := h29R.1.1
          refine pw_goto E (pc' := 5) rfl (by decide) ?_
          exact ih5 _ (by omega)  h29 h29I h29F h29A (R31.wk (by decide))   rfl
  exact L5 _  h3 h3I h3F h3A R5   rfl
set_option maxHeartbeats 4000000 in
theorem cm_250 {X : List (Nat × List Value)} (dp : Int) (hdp1 : 0 ≤ dp) (hdp2 : dp ≤ 5) (hT : pw_C251 X dp) {d : Nat} {h : pm_H} (hd : (30 - 5 * dp : Int) ≤ d) (I : pw_I h) {n : Nat} (A : pw_A n h) (hs : pw_g h 125 32 ≤ pw_g h 125 7) : pw X d h 250 0 [some (.ref 141), some (pw_i dp), none] [] (fun h' v => pw_I h' ∧ pw_E [125, 146, 147] h h' ∧ (pw_A n h' ∧ pw_R 0 0 1 h h') ∧ (v = .inl none)) := by
  have E : pm_ent 250 = some (2, 3, 12, 4, pmc_250) := rfl
  have E0 : pw_E [125, 146, 147] h h := pw_E.rf _ _
  have R0 : pw_R 0 0 0 h h := pw_R.rf A.2.2.2.2.2
  have hn1 : n ≤ 1000 := A.1
  have hA1 : pw_g h 125 7 ≤ n ∧ 0 ≤ pw_g h 125 8 ∧ 0 ≤ pw_g h 125 7 ∧ 0 ≤ pw_g h 125 32 := A.2.2
  refine pw_ld E (pc' := 1) (st' := [.ref 141]) rfl (fun _ => rfl) ?_
  refine pw_ld E (pc' := 2) (st' := [pw_i dp, .ref 141]) rfl (fun _ => rfl) ?_
  obtain ⟨f2l, f2h, -⟩ := pw_obj (c := 125) I rfl
  refine pw_call (m' := 251) (As := [.ref 141, pw_i dp]) (rest := []) (ls'' := [some (.ref 141), some (pw_i dp)]) (by omega) E rfl (fun _ => pw_iV rfl rfl rfl rfl (pw_cellI f2h rfl)) (rfl : pm_ent 251 = some (2, 2, 12, 4, pmc_251)) rfl rfl (hT (by omega) I A (by omega)) ?_
  rintro h3 v4 ⟨h3I, h3E, ⟨h3A, h3R⟩, rfl⟩
  refine ⟨_, rfl, ?_⟩
  have h3F := E0.tr (h3E.wk (W' := [125, 146, 147]) (by first | rfl | simp))
  show pw X d h3 250 5 [some (.ref 141), some (pw_i dp), none] [] _
  have R5 : pw_R 0 0 1 h h3 := R0.tr (h3R : pw_R 0 0 1 h h3) (by decide) (by decide) (by decide)
  have hA6 : pw_g h3 125 7 ≤ n ∧ 0 ≤ pw_g h3 125 8 ∧ 0 ≤ pw_g h3 125 7 ∧ 0 ≤ pw_g h3 125 32 := h3A.2.2
  have hA7 : pw_g h 125 7 - pw_g h 125 32 + 0 ≤ pw_g h3 125 7 - pw_g h3 125 32 := R5.1.2.2.2.1
  have hA8 : pw_g h 125 7 ≤ pw_g h3 125 7 := h3R.1.2.1
  have hA8z : pw_g h3 125 8 = 0 → pw_g h 125 8 = 0 := h3R.1.1
  have L5 : ∀ (n5 : Nat) (k5_2 : Option Value) (gh5 : pm_H), pw_I gh5 → pw_E [125, 146, 147] h gh5 → pw_A n gh5 → pw_R 0 0 1 h gh5 → ((n : Int) - pw_g gh5 125 7).toNat = n5 → pw X d gh5 250 5 [some (.ref 141), some (pw_i dp), k5_2] [] (fun h' v => pw_I h' ∧ pw_E [125, 146, 147] h h' ∧ (pw_A n h' ∧ pw_R 0 0 1 h h') ∧ (v = .inl none)) := by
    intro n5
    induction n5 using Nat.strongRecOn with
    | ind n5 ih5 =>
      intro k5_2 gh5 I5 E5 A5 R5 hm5
      have hAh5 : pw_g gh5 125 7 ≤ n ∧ 0 ≤ pw_g gh5 125 8 ∧ 0 ≤ pw_g gh5 125 7 ∧ 0 ≤ pw_g gh5 125 32 := A5.2.2
      have hAi5 : pw_g h 125 7 - pw_g h 125 32 + 0 ≤ pw_g gh5 125 7 - pw_g gh5 125 32 := R5.1.2.2.2.1
      refine pw_ld E (pc' := 6) (st' := [.ref 141]) rfl (fun _ => rfl) ?_
      refine pw_bip E (pc' := 8) rfl rfl (by decide) ?_
      obtain ⟨f9l, f9h, -⟩ := pw_obj (c := 125) I5 rfl
      refine pw_call (m' := 254) (As := [.ref 141, pw_i 43]) (rest := []) (ls'' := [some (.ref 141), some (pw_i 43)]) (by omega) E rfl (fun _ => pw_iV rfl rfl rfl rfl (pw_cellI f9h rfl)) (rfl : pm_ent 254 = some (2, 2, 12, 1, pmc_254)) rfl rfl (cm_254 (by omega) I5 (43) (by omega) (by omega)) ?_
      rintro u11 v10 ⟨rfl, x12, rfl, hx12a, hx12b, hx12r⟩
      refine ⟨_, rfl, ?_⟩
      show pw X d gh5 250 11 [some (.ref 141), some (pw_i dp), k5_2] [pw_i x12] _
      change x12 = pw_sg gh5 43 ∧ (x12 = 1 → pw_g gh5 125 8 = 0 ∧ pw_g gh5 127 (pw_g gh5 125 7).toNat = 3) at hx12r
      rcases (by omega : x12 = 1 ∨ x12 = 0) with hb13 | hb13
      · skip
        refine pw_if E (pc' := 23) rfl (by decide) (by omega) (by omega) ?_ ?_
        · intro hc14
          change x12 ≠ (0 : Int) at hc14
          refine pw_ld E (pc' := 24) (st' := [.ref 141]) rfl (fun _ => rfl) ?_
          refine pw_bip E (pc' := 26) rfl rfl (by decide) ?_
          obtain ⟨f15l, f15h, -⟩ := pw_obj (c := 125) I5 rfl
          refine pw_call (m' := 254) (As := [.ref 141, pw_i 43]) (rest := []) (ls'' := [some (.ref 141), some (pw_i 43)]) (by omega) E rfl (fun _ => pw_iV rfl rfl rfl rfl (pw_cellI f15h rfl)) (rfl : pm_ent 254 = some (2, 2, 12, 1, pmc_254)) rfl rfl (cm_254 (by omega) I5 (43) (by omega) (by omega)) ?_
          rintro u17 v16 ⟨rfl, x18, rfl, hx18a, hx18b, hx18r⟩
          refine ⟨_, rfl, ?_⟩
          show pw X d gh5 250 29 [some (.ref 141), some (pw_i dp), k5_2] [pw_i x18] _
          change x18 = pw_sg gh5 43 ∧ (x18 = 1 → pw_g gh5 125 8 = 0 ∧ pw_g gh5 127 (pw_g gh5 125 7).toNat = 3) at hx18r
          refine pw_istn E (pc' := 30) (ls' := [some (.ref 141), some (pw_i dp), some (pw_i x18)]) rfl rfl rfl rfl ?_
          refine pw_ld E (pc' := 31) (st' := [.ref 141]) rfl (fun _ => rfl) ?_
          refine pw_ld E (pc' := 32) (st' := [.ref 141, .ref 141]) rfl (fun _ => rfl) ?_
          refine pw_getI2 I5 E (c := 125) (k := 7) (pc' := 35) rfl rfl rfl rfl rfl rfl (fun hf19a hf19b => ?_)
          refine pw_ld E (pc' := 36) (st' := [pw_i 1, pw_i (pw_g gh5 125 7), .ref 141]) rfl (fun _ => rfl) ?_
          refine pw_add E (pc' := 37) rfl rfl ?_
          have hlt20 : (pw_g gh5 125 7) + 1 ≤ 1001 ∧ (pw_g gh5 125 7) + 1 ≤ n := by first | omega | (have := pw_A.lt A5 (by omega); omega) | (have := pw_A.lt A (by omega); omega)
          refine pw_putI I5 E (c := 125) (k := 7) (pc' := 40) rfl rfl rfl rfl (by omega) (by omega) (by omega) (by omega) rfl rfl ?_
          intro h21I h21E
          generalize h21w : pw_w gh5 125 7 (pw_i ((pw_g gh5 125 7) + 1)) = h21 at h21I h21E ⊢
          have h21F := E5.tr (h21E.wk (W' := [125, 146, 147]) (by first | rfl | simp))
          have h217 : pw_g h21 125 7 = pw_g gh5 125 7 + 1 := by rw [← h21w]; exact pw_g_eq (c := 125) (k := 7) I5 rfl rfl (by omega) (by omega)
          have h218 : pw_g h21 125 8 = pw_g gh5 125 8 := by rw [← h21w]; exact pw_g_ne (by omega)
          have h219 : pw_g h21 125 32 = pw_g gh5 125 32 := by rw [← h21w]; exact pw_g_ne (by omega)
          have h21A : pw_A n h21 := ⟨hn1, by rw [← h21w, pw_g_ne (by omega)]; exact A5.2.1, by omega, by omega, by omega, by omega⟩
          have h21R : pw_R 1 0 0 gh5 h21 := pw_R.same (by decide) (by omega) (by omega) h217 h219 (fun j => by rw [← h21w]; exact pw_g_ne (by omega)) (fun j => by rw [← h21w]; exact pw_g_ne (by omega))
          have R22 : pw_R 1 0 1 h h21 := R5.tr (h21R : pw_R 1 0 0 gh5 h21) (by decide) (by decide) (by decide)
          have hA23 : pw_g h21 125 7 ≤ n ∧ 0 ≤ pw_g h21 125 8 ∧ 0 ≤ pw_g h21 125 7 ∧ 0 ≤ pw_g h21 125 32 := h21A.2.2
          have hA24 : pw_g h 125 7 - pw_g h 125 32 + 1 ≤ pw_g h21 125 7 - pw_g h21 125 32 := R22.1.2.2.2.1
          have hA25 : pw_g gh5 125 7 ≤ pw_g h21 125 7 := h21R.1.2.1
          have hA25z : pw_g h21 125 8 = 0 → pw_g gh5 125 8 = 0 := h21R.1.1
          refine pw_ld E (pc' := 41) (st' := [.ref 141]) rfl (fun _ => rfl) ?_
          refine pw_ld E (pc' := 42) (st' := [pw_i dp, .ref 141]) rfl (fun _ => rfl) ?_
          obtain ⟨f26l, f26h, -⟩ := pw_obj (c := 125) h21I rfl
          refine pw_call (m' := 251) (As := [.ref 141, pw_i dp]) (rest := []) (ls'' := [some (.ref 141), some (pw_i dp)]) (by omega) E rfl (fun _ => pw_iV rfl rfl rfl rfl (pw_cellI f26h rfl)) (rfl : pm_ent 251 = some (2, 2, 12, 4, pmc_251)) rfl rfl (hT (by omega) h21I h21A (by omega)) ?_
          rintro h27 v28 ⟨h27I, h27E, ⟨h27A, h27R⟩, rfl⟩
          refine ⟨_, rfl, ?_⟩
          have h27F := h21F.tr (h27E.wk (W' := [125, 146, 147]) (by first | rfl | simp))
          show pw X d h27 250 45 [some (.ref 141), some (pw_i dp), some (pw_i x18)] [] _
          have R29 : pw_R 1 0 2 h h27 := R22.tr (h27R : pw_R 0 0 1 h21 h27) (by decide) (by decide) (by decide)
          have hA30 : pw_g h27 125 7 ≤ n ∧ 0 ≤ pw_g h27 125 8 ∧ 0 ≤ pw_g h27 125 7 ∧ 0 ≤ pw_g h27 125 32 := h27A.2.2
          have hA31 : pw_g h 125 7 - pw_g h 125 32 + 1 ≤ pw_g h27 125 7 - pw_g h27 125 32 := R29.1.2.2.2.1
          have hA32 : pw_g h21 125 7 ≤ pw_g h27 125 7 := h27R.1.2.1
          have hA32z : pw_g h27 125 8 = 0 → pw_g h21 125 8 = 0 := h27R.1.1
          refine pw_ld E (pc' := 46) (st' := [.ref 141]) rfl (fun _ => rfl) ?_
          refine pw_ld E (pc' := 47) (st' := [pw_i x18, .ref 141]) rfl (fun _ => rfl) ?_
          refine pw_if E (pc' := 54) rfl (by decide) (by omega) (by omega) ?_ ?_
          · intro hc33
            change x18 = (0 : Int) at hc33
            refine pw_ld E (pc' := 55) (st' := [pw_i 5, .ref 141]) rfl (fun _ => rfl) ?_
            refine pw_ld E (pc' := 56) (st' := [pw_i 0, pw_i 5, .ref 141]) rfl (fun _ => rfl) ?_
            obtain ⟨f34l, f34h, -⟩ := pw_obj (c := 125) h27I rfl
            refine pw_call (m' := 255) (As := [.ref 141, pw_i 5, pw_i 0]) (rest := []) (ls'' := [some (.ref 141), some (pw_i 5), some (pw_i 0)]) (by omega) E rfl (fun _ => pw_iV rfl rfl rfl rfl (pw_cellI f34h rfl)) (rfl : pm_ent 255 = some (3, 3, 12, 4, pmc_255)) rfl rfl (cm_255 (by omega) h27I h27A (by omega) (5) (by omega) (by omega) (0) (by omega) (by omega)) ?_
            rintro h35 v36 ⟨h35I, h35E, ⟨h358, h357, h35c, h35o, h35g, h35u⟩, rfl⟩
            refine ⟨_, rfl, ?_⟩
            have h35F := h27F.tr (h35E.wk (W' := [125, 146, 147]) (by first | rfl | simp))
            show pw X d h35 250 59 [some (.ref 141), some (pw_i dp), some (pw_i x18)] [] _
            have h35A : pw_A n h35 := ⟨hn1, by rw [pw_Eg (c := 127) h27I h35E rfl rfl]; exact h27A.2.1, by omega, by omega, by omega, by omega⟩
            have h35R : pw_R (-1) 2 (-1) h27 h35 := pw_R.emit (c := 5) (Or.inr (Or.inr ⟨rfl, rfl, by decide⟩)) (by omega) (by omega) h358 h357 h35c h35o h35u
            have R37 : pw_R 0 0 1 h h35 := R29.tr (h35R : pw_R (-1) 2 (-1) h27 h35) (by decide) (by decide) (by decide)
            have hA38 : pw_g h35 125 7 ≤ n ∧ 0 ≤ pw_g h35 125 8 ∧ 0 ≤ pw_g h35 125 7 ∧ 0 ≤ pw_g h35 125 32 := h35A.2.2
            have hA39 : pw_g h 125 7 - pw_g h 125 32 + 0 ≤ pw_g h35 125 7 - pw_g h35 125 32 := R37.1.2.2.2.1
            have hA40 : pw_g h27 125 7 ≤ pw_g h35 125 7 := h35R.1.2.1
            have hA40z : pw_g h35 125 8 = 0 → pw_g h27 125 8 = 0 := h35R.1.1
            refine pw_goto E (pc' := 5) rfl (by decide) ?_
            exact ih5 _ (by omega) (some (pw_i x18)) h35 h35I h35F h35A (R37.wk (by decide))   rfl
          · intro hc41
            change ¬ (x18 = (0 : Int)) at hc41
            refine pw_ld E (pc' := 51) (st' := [pw_i 4, .ref 141]) rfl (fun _ => rfl) ?_
            refine pw_goto E (pc' := 55) rfl (by decide) ?_
            refine pw_ld E (pc' := 56) (st' := [pw_i 0, pw_i 4, .ref 141]) rfl (fun _ => rfl) ?_
            obtain ⟨f42l, f42h, -⟩ := pw_obj (c := 125) h27I rfl
            refine pw_call (m' := 255) (As := [.ref 141, pw_i 4, pw_i 0]) (rest := []) (ls'' := [some (.ref 141), some (pw_i 4), some (pw_i 0)]) (by omega) E rfl (fun _ => pw_iV rfl rfl rfl rfl (pw_cellI f42h rfl)) (rfl : pm_ent 255 = some (3, 3, 12, 4, pmc_255)) rfl rfl (cm_255 (by omega) h27I h27A (by omega) (4) (by omega) (by omega) (0) (by omega) (by omega)) ?_
            rintro h43 v44 ⟨h43I, h43E, ⟨h438, h437, h43c, h43o, h43g, h43u⟩, rfl⟩
            refine ⟨_, rfl, ?_⟩
            have h43F := h27F.tr (h43E.wk (W' := [125, 146, 147]) (by first | rfl | simp))
            show pw X d h43 250 59 [some (.ref 141), some (pw_i dp), some (pw_i x18)] [] _
            have h43A : pw_A n h43 := ⟨hn1, by rw [pw_Eg (c := 127) h27I h43E rfl rfl]; exact h27A.2.1, by omega, by omega, by omega, by omega⟩
            have h43R : pw_R (-1) 2 (-1) h27 h43 := pw_R.emit (c := 4) (Or.inr (Or.inr ⟨rfl, rfl, by decide⟩)) (by omega) (by omega) h438 h437 h43c h43o h43u
            have R45 : pw_R 0 0 1 h h43 := R29.tr (h43R : pw_R (-1) 2 (-1) h27 h43) (by decide) (by decide) (by decide)
            have hA46 : pw_g h43 125 7 ≤ n ∧ 0 ≤ pw_g h43 125 8 ∧ 0 ≤ pw_g h43 125 7 ∧ 0 ≤ pw_g h43 125 32 := h43A.2.2
            have hA47 : pw_g h 125 7 - pw_g h 125 32 + 0 ≤ pw_g h43 125 7 - pw_g h43 125 32 := R45.1.2.2.2.1
            have hA48 : pw_g h27 125 7 ≤ pw_g h43 125 7 := h43R.1.2.1
            have hA48z : pw_g h43 125 8 = 0 → pw_g h27 125 8 = 0 := h43R.1.1
            refine pw_goto E (pc' := 5) rfl (by decide) ?_
            exact ih5 _ (by omega) (some (pw_i x18)) h43 h43I h43F h43A (R45.wk (by decide))   rfl
        · intro hc49
          change ¬ (x12 ≠ (0 : Int)) at hc49
          exfalso; omega
      · skip
        refine pw_if E (pc' := 23) rfl (by decide) (by omega) (by omega) ?_ ?_
        · intro hc51
          change x12 ≠ (0 : Int) at hc51
          exfalso; omega
        · intro hc52
          change ¬ (x12 ≠ (0 : Int)) at hc52
          refine pw_ld E (pc' := 15) (st' := [.ref 141]) rfl (fun _ => rfl) ?_
          refine pw_bip E (pc' := 17) rfl rfl (by decide) ?_
          obtain ⟨f53l, f53h, -⟩ := pw_obj (c := 125) I5 rfl
          refine pw_call (m' := 254) (As := [.ref 141, pw_i 45]) (rest := []) (ls'' := [some (.ref 141), some (pw_i 45)]) (by omega) E rfl (fun _ => pw_iV rfl rfl rfl rfl (pw_cellI f53h rfl)) (rfl : pm_ent 254 = some (2, 2, 12, 1, pmc_254)) rfl rfl (cm_254 (by omega) I5 (45) (by omega) (by omega)) ?_
          rintro u55 v54 ⟨rfl, x56, rfl, hx56a, hx56b, hx56r⟩
          refine ⟨_, rfl, ?_⟩
          show pw X d gh5 250 20 [some (.ref 141), some (pw_i dp), k5_2] [pw_i x56] _
          change x56 = pw_sg gh5 45 ∧ (x56 = 1 → pw_g gh5 125 8 = 0 ∧ pw_g gh5 127 (pw_g gh5 125 7).toNat = 3) at hx56r
          rcases (by omega : x56 = 1 ∨ x56 = 0) with hb57 | hb57
          · skip
            refine pw_if E (pc' := 62) rfl (by decide) (by omega) (by omega) ?_ ?_
            · intro hc58
              change x56 = (0 : Int) at hc58
              exfalso; omega
            · intro hc59
              change ¬ (x56 = (0 : Int)) at hc59
              refine pw_ld E (pc' := 24) (st' := [.ref 141]) rfl (fun _ => rfl) ?_
              refine pw_bip E (pc' := 26) rfl rfl (by decide) ?_
              obtain ⟨f60l, f60h, -⟩ := pw_obj (c := 125) I5 rfl
              refine pw_call (m' := 254) (As := [.ref 141, pw_i 43]) (rest := []) (ls'' := [some (.ref 141), some (pw_i 43)]) (by omega) E rfl (fun _ => pw_iV rfl rfl rfl rfl (pw_cellI f60h rfl)) (rfl : pm_ent 254 = some (2, 2, 12, 1, pmc_254)) rfl rfl (cm_254 (by omega) I5 (43) (by omega) (by omega)) ?_
              rintro u62 v61 ⟨rfl, x63, rfl, hx63a, hx63b, hx63r⟩
              refine ⟨_, rfl, ?_⟩
              show pw X d gh5 250 29 [some (.ref 141), some (pw_i dp), k5_2] [pw_i x63] _
              change x63 = pw_sg gh5 43 ∧ (x63 = 1 → pw_g gh5 125 8 = 0 ∧ pw_g gh5 127 (pw_g gh5 125 7).toNat = 3) at hx63r
              refine pw_istn E (pc' := 30) (ls' := [some (.ref 141), some (pw_i dp), some (pw_i x63)]) rfl rfl rfl rfl ?_
              refine pw_ld E (pc' := 31) (st' := [.ref 141]) rfl (fun _ => rfl) ?_
              refine pw_ld E (pc' := 32) (st' := [.ref 141, .ref 141]) rfl (fun _ => rfl) ?_
              refine pw_getI2 I5 E (c := 125) (k := 7) (pc' := 35) rfl rfl rfl rfl rfl rfl (fun hf64a hf64b => ?_)
              refine pw_ld E (pc' := 36) (st' := [pw_i 1, pw_i (pw_g gh5 125 7), .ref 141]) rfl (fun _ => rfl) ?_
              refine pw_add E (pc' := 37) rfl rfl ?_
              have hlt65 : (pw_g gh5 125 7) + 1 ≤ 1001 ∧ (pw_g gh5 125 7) + 1 ≤ n := by first | omega | (have := pw_A.lt A5 (by omega); omega) | (have := pw_A.lt A (by omega); omega)
              refine pw_putI I5 E (c := 125) (k := 7) (pc' := 40) rfl rfl rfl rfl (by omega) (by omega) (by omega) (by omega) rfl rfl ?_
              intro h66I h66E
              generalize h66w : pw_w gh5 125 7 (pw_i ((pw_g gh5 125 7) + 1)) = h66 at h66I h66E ⊢
              have h66F := E5.tr (h66E.wk (W' := [125, 146, 147]) (by first | rfl | simp))
              have h667 : pw_g h66 125 7 = pw_g gh5 125 7 + 1 := by rw [← h66w]; exact pw_g_eq (c := 125) (k := 7) I5 rfl rfl (by omega) (by omega)
              have h668 : pw_g h66 125 8 = pw_g gh5 125 8 := by rw [← h66w]; exact pw_g_ne (by omega)
              have h669 : pw_g h66 125 32 = pw_g gh5 125 32 := by rw [← h66w]; exact pw_g_ne (by omega)
              have h66A : pw_A n h66 := ⟨hn1, by rw [← h66w, pw_g_ne (by omega)]; exact A5.2.1, by omega, by omega, by omega, by omega⟩
              have h66R : pw_R 1 0 0 gh5 h66 := pw_R.same (by decide) (by omega) (by omega) h667 h669 (fun j => by rw [← h66w]; exact pw_g_ne (by omega)) (fun j => by rw [← h66w]; exact pw_g_ne (by omega))
              have R67 : pw_R 1 0 1 h h66 := R5.tr (h66R : pw_R 1 0 0 gh5 h66) (by decide) (by decide) (by decide)
              have hA68 : pw_g h66 125 7 ≤ n ∧ 0 ≤ pw_g h66 125 8 ∧ 0 ≤ pw_g h66 125 7 ∧ 0 ≤ pw_g h66 125 32 := h66A.2.2
              have hA69 : pw_g h 125 7 - pw_g h 125 32 + 1 ≤ pw_g h66 125 7 - pw_g h66 125 32 := R67.1.2.2.2.1
              have hA70 : pw_g gh5 125 7 ≤ pw_g h66 125 7 := h66R.1.2.1
              have hA70z : pw_g h66 125 8 = 0 → pw_g gh5 125 8 = 0 := h66R.1.1
              refine pw_ld E (pc' := 41) (st' := [.ref 141]) rfl (fun _ => rfl) ?_
              refine pw_ld E (pc' := 42) (st' := [pw_i dp, .ref 141]) rfl (fun _ => rfl) ?_
              obtain ⟨f71l, f71h, -⟩ := pw_obj (c := 125) h66I rfl
              refine pw_call (m' := 251) (As := [.ref 141, pw_i dp]) (rest := []) (ls'' := [some (.ref 141), some (pw_i dp)]) (by omega) E rfl (fun _ => pw_iV rfl rfl rfl rfl (pw_cellI f71h rfl)) (rfl : pm_ent 251 = some (2, 2, 12, 4, pmc_251)) rfl rfl (hT (by omega) h66I h66A (by omega)) ?_
              rintro h72 v73 ⟨h72I, h72E, ⟨h72A, h72R⟩, rfl⟩
              refine ⟨_, rfl, ?_⟩
              have h72F := h66F.tr (h72E.wk (W' := [125, 146, 147]) (by first | rfl | simp))
              show pw X d h72 250 45 [some (.ref 141), some (pw_i dp), some (pw_i x63)] [] _
              have R74 : pw_R 1 0 2 h h72 := R67.tr (h72R : pw_R 0 0 1 h66 h72) (by decide) (by decide) (by decide)
              have hA75 : pw_g h72 125 7 ≤ n ∧ 0 ≤ pw_g h72 125 8 ∧ 0 ≤ pw_g h72 125 7 ∧ 0 ≤ pw_g h72 125 32 := h72A.2.2
              have hA76 : pw_g h 125 7 - pw_g h 125 32 + 1 ≤ pw_g h72 125 7 - pw_g h72 125 32 := R74.1.2.2.2.1
              have hA77 : pw_g h66 125 7 ≤ pw_g h72 125 7 := h72R.1.2.1
              have hA77z : pw_g h72 125 8 = 0 → pw_g h66 125 8 = 0 := h72R.1.1
              refine pw_ld E (pc' := 46) (st' := [.ref 141]) rfl (fun _ => rfl) ?_
              refine pw_ld E (pc' := 47) (st' := [pw_i x63, .ref 141]) rfl (fun _ => rfl) ?_
              refine pw_if E (pc' := 54) rfl (by decide) (by omega) (by omega) ?_ ?_
              · intro hc78
                change x63 = (0 : Int) at hc78
                refine pw_ld E (pc' := 55) (st' := [pw_i 5, .ref 141]) rfl (fun _ => rfl) ?_
                refine pw_ld E (pc' := 56) (st' := [pw_i 0, pw_i 5, .ref 141]) rfl (fun _ => rfl) ?_
                obtain ⟨f79l, f79h, -⟩ := pw_obj (c := 125) h72I rfl
                refine pw_call (m' := 255) (As := [.ref 141, pw_i 5, pw_i 0]) (rest := []) (ls'' := [some (.ref 141), some (pw_i 5), some (pw_i 0)]) (by omega) E rfl (fun _ => pw_iV rfl rfl rfl rfl (pw_cellI f79h rfl)) (rfl : pm_ent 255 = some (3, 3, 12, 4, pmc_255)) rfl rfl (cm_255 (by omega) h72I h72A (by omega) (5) (by omega) (by omega) (0) (by omega) (by omega)) ?_
                rintro h80 v81 ⟨h80I, h80E, ⟨h808, h807, h80c, h80o, h80g, h80u⟩, rfl⟩
                refine ⟨_, rfl, ?_⟩
                have h80F := h72F.tr (h80E.wk (W' := [125, 146, 147]) (by first | rfl | simp))
                show pw X d h80 250 59 [some (.ref 141), some (pw_i dp), some (pw_i x63)] [] _
                have h80A : pw_A n h80 := ⟨hn1, by rw [pw_Eg (c := 127) h72I h80E rfl rfl]; exact h72A.2.1, by omega, by omega, by omega, by omega⟩
                have h80R : pw_R (-1) 2 (-1) h72 h80 := pw_R.emit (c := 5) (Or.inr (Or.inr ⟨rfl, rfl, by decide⟩)) (by omega) (by omega) h808 h807 h80c h80o h80u
                have R82 : pw_R 0 0 1 h h80 := R74.tr (h80R : pw_R (-1) 2 (-1) h72 h80) (by decide) (by decide) (by decide)
                have hA83 : pw_g h80 125 7 ≤ n ∧ 0 ≤ pw_g h80 125 8 ∧ 0 ≤ pw_g h80 125 7 ∧ 0 ≤ pw_g h80 125 32 := h80A.2.2
                have hA84 : pw_g h 125 7 - pw_g h 125 32 + 0 ≤ pw_g h80 125 7 - pw_g h80 125 32 := R82.1.2.2.2.1
                have hA85 : pw_g h72 125 7 ≤ pw_g h80 125 7 := h80R.1.2.1
                have hA85z : pw_g h80 125 8 = 0 → pw_g h72 125 8 = 0 := h80R.1.1
                refine pw_goto E (pc' := 5) rfl (by decide) ?_
                exact ih5 _ (by omega) (some (pw_i x63)) h80 h80I h80F h80A (R82.wk (by decide))   rfl
              · intro hc86
                change ¬ (x63 = (0 : Int)) at hc86
                refine pw_ld E (pc' := 51) (st' := [pw_i 4, .ref 141]) rfl (fun _ => rfl) ?_
                refine pw_goto E (pc' := 55) rfl (by decide) ?_
                refine pw_ld E (pc' := 56) (st' := [pw_i 0, pw_i 4, .ref 141]) rfl (fun _ => rfl) ?_
                obtain ⟨f87l, f87h, -⟩ := pw_obj (c := 125) h72I rfl
                refine pw_call (m' := 255) (As := [.ref 141, pw_i 4, pw_i 0]) (rest := []) (ls'' := [some (.ref 141), some (pw_i 4), some (pw_i 0)]) (by omega) E rfl (fun _ => pw_iV rfl rfl rfl rfl (pw_cellI f87h rfl)) (rfl : pm_ent 255 = some (3, 3, 12, 4, pmc_255)) rfl rfl (cm_255 (by omega) h72I h72A (by omega) (4) (by omega) (by omega) (0) (by omega) (by omega)) ?_
                rintro h88 v89 ⟨h88I, h88E, ⟨h888, h887, h88c, h88o, h88g, h88u⟩, rfl⟩
                refine ⟨_, rfl, ?_⟩
                have h88F := h72F.tr (h88E.wk (W' := [125, 146, 147]) (by first | rfl | simp))
                show pw X d h88 250 59 [some (.ref 141), some (pw_i dp), some (pw_i x63)] [] _
                have h88A : pw_A n h88 := ⟨hn1, by rw [pw_Eg (c := 127) h72I h88E rfl rfl]; exact h72A.2.1, by omega, by omega, by omega, by omega⟩
                have h88R : pw_R (-1) 2 (-1) h72 h88 := pw_R.emit (c := 4) (Or.inr (Or.inr ⟨rfl, rfl, by decide⟩)) (by omega) (by omega) h888 h887 h88c h88o h88u
                have R90 : pw_R 0 0 1 h h88 := R74.tr (h88R : pw_R (-1) 2 (-1) h72 h88) (by decide) (by decide) (by decide)
                have hA91 : pw_g h88 125 7 ≤ n ∧ 0 ≤ pw_g h88 125 8 ∧ 0 ≤ pw_g h88 125 7 ∧ 0 ≤ pw_g h88 125 32 := h88A.2.2
                have hA92 : pw_g h 125 7 - pw_g h 125 32 + 0 ≤ pw_g h88 125 7 - pw_g h88 125 32 := R90.1.2.2.2.1
                have hA93 : pw_g h72 125 7 ≤ pw_g h88 125 7 := h88R.1.2.1
                have hA93z : pw_g h88 125 8 = 0 → pw_g h72 125 8 = 0 := h88R.1.1
                refine pw_goto E (pc' := 5) rfl (by decide) ?_
                exact ih5 _ (by omega) (some (pw_i x63)) h88 h88I h88F h88A (R90.wk (by decide))   rfl
          · skip
            refine pw_if E (pc' := 62) rfl (by decide) (by omega) (by omega) ?_ ?_
            · intro hc95
              change x56 = (0 : Int) at hc95
              refine pw_vret E rfl ?_
              exact ⟨I5, E5, ⟨A5, R5.wk (by decide)⟩, rfl⟩
            · intro hc96
              change ¬ (x56 = (0 : Int)) at hc96
              exfalso; omega
  exact L5 _ (none) h3 h3I h3F h3A R5   rfl
set_option maxHeartbeats 4000000 in
theorem cm_249 {X : List (Nat × List Value)} (dp : Int) (hdp1 : 0 ≤ dp) (hdp2 : dp ≤ 5) (hT : pw_C250 X dp) {d : Nat} {h : pm_H} (hd : (31 - 5 * dp : Int) ≤ d) (I : pw_I h) {n : Nat} (A : pw_A n h) (hs : pw_g h 125 32 ≤ pw_g h 125 7) : pw X d h 249 0 [some (.ref 141), some (pw_i dp), none] [] (fun h' v => pw_I h' ∧ pw_E [125, 146, 147] h h' ∧ (pw_A n h' ∧ pw_R 0 0 1 h h') ∧ (v = .inl none)) := by
  have E : pm_ent 249 = some (2, 3, 12, 4, pmc_249) := rfl
  have E0 : pw_E [125, 146, 147] h h := pw_E.rf _ _
  have R0 : pw_R 0 0 0 h h := pw_R.rf A.2.2.2.2.2
  have hn1 : n ≤ 1000 := A.1
  have hA1 : pw_g h 125 7 ≤ n ∧ 0 ≤ pw_g h 125 8 ∧ 0 ≤ pw_g h 125 7 ∧ 0 ≤ pw_g h 125 32 := A.2.2
  refine pw_ld E (pc' := 1) (st' := [.ref 141]) rfl (fun _ => rfl) ?_
  refine pw_ld E (pc' := 2) (st' := [pw_i dp, .ref 141]) rfl (fun _ => rfl) ?_
  obtain ⟨f2l, f2h, -⟩ := pw_obj (c := 125) I rfl
  refine pw_call (m' := 250) (As := [.ref 141, pw_i dp]) (rest := []) (ls'' := [some (.ref 141), some (pw_i dp), none]) (by omega) E rfl (fun _ => pw_iV rfl rfl rfl rfl (pw_cellI f2h rfl)) (rfl : pm_ent 250 = some (2, 3, 12, 4, pmc_250)) rfl rfl (hT (by omega) I A (by omega)) ?_
  rintro h3 v4 ⟨h3I, h3E, ⟨h3A, h3R⟩, rfl⟩
  refine ⟨_, rfl, ?_⟩
  have h3F := E0.tr (h3E.wk (W' := [125, 146, 147]) (by first | rfl | simp))
  show pw X d h3 249 5 [some (.ref 141), some (pw_i dp), none] [] _
  have R5 : pw_R 0 0 1 h h3 := R0.tr (h3R : pw_R 0 0 1 h h3) (by decide) (by decide) (by decide)
  have hA6 : pw_g h3 125 7 ≤ n ∧ 0 ≤ pw_g h3 125 8 ∧ 0 ≤ pw_g h3 125 7 ∧ 0 ≤ pw_g h3 125 32 := h3A.2.2
  have hA7 : pw_g h 125 7 - pw_g h 125 32 + 0 ≤ pw_g h3 125 7 - pw_g h3 125 32 := R5.1.2.2.2.1
  have hA8 : pw_g h 125 7 ≤ pw_g h3 125 7 := h3R.1.2.1
  have hA8z : pw_g h3 125 8 = 0 → pw_g h 125 8 = 0 := h3R.1.1
  refine pw_ld E (pc' := 6) (st' := [.ref 141]) rfl (fun _ => rfl) ?_
  refine pw_bip E (pc' := 8) rfl rfl (by decide) ?_
  obtain ⟨f9l, f9h, -⟩ := pw_obj (c := 125) h3I rfl
  refine pw_call (m' := 254) (As := [.ref 141, pw_i 60]) (rest := []) (ls'' := [some (.ref 141), some (pw_i 60)]) (by omega) E rfl (fun _ => pw_iV rfl rfl rfl rfl (pw_cellI f9h rfl)) (rfl : pm_ent 254 = some (2, 2, 12, 1, pmc_254)) rfl rfl (cm_254 (by omega) h3I (60) (by omega) (by omega)) ?_
  rintro u11 v10 ⟨rfl, x12, rfl, hx12a, hx12b, hx12r⟩
  refine ⟨_, rfl, ?_⟩
  show pw X d h3 249 11 [some (.ref 141), some (pw_i dp), none] [pw_i x12] _
  change x12 = pw_sg h3 60 ∧ (x12 = 1 → pw_g h3 125 8 = 0 ∧ pw_g h3 127 (pw_g h3 125 7).toNat = 3) at hx12r
  refine pw_istn E (pc' := 12) (ls' := [some (.ref 141), some (pw_i dp), some (pw_i x12)]) rfl rfl rfl rfl ?_
  refine pw_ld E (pc' := 13) (st' := [.ref 141]) rfl (fun _ => rfl) ?_
  refine pw_bip E (pc' := 15) rfl rfl (by decide) ?_
  obtain ⟨f13l, f13h, -⟩ := pw_obj (c := 125) h3I rfl
  refine pw_call (m' := 256) (As := [.ref 141, pw_i 60]) (rest := []) (ls'' := [some (.ref 141), some (pw_i 60), none]) (by omega) E rfl (fun _ => pw_iV rfl rfl rfl rfl (pw_cellI f13h rfl)) (rfl : pm_ent 256 = some (2, 3, 12, 1, pmc_256)) rfl rfl (cm_256 (by omega) h3I h3A (60) (by omega) (by omega)) ?_
  rintro h14 v15 ⟨x16, rfl, x16a, ⟨x16b, h14c⟩ | ⟨x16b, h14I, h14E, h14A, h14R, h147⟩⟩
  · refine ⟨_, rfl, ?_⟩
    subst h14c
    change x16 = pw_sg h3 60 at x16a
    change x16 = 0 at x16b
    show pw X d h3 249 18 [some (.ref 141), some (pw_i dp), some (pw_i x12)] [pw_i x16] _
    refine pw_if E (pc' := 30) rfl (by decide) (by omega) (by omega) ?_ ?_
    · intro hc17
      change x16 ≠ (0 : Int) at hc17
      exfalso; omega
    · intro hc18
      change ¬ (x16 ≠ (0 : Int)) at hc18
      refine pw_ld E (pc' := 22) (st' := [.ref 141]) rfl (fun _ => rfl) ?_
      refine pw_bip E (pc' := 24) rfl rfl (by decide) ?_
      obtain ⟨f19l, f19h, -⟩ := pw_obj (c := 125) h3I rfl
      refine pw_call (m' := 256) (As := [.ref 141, pw_i 61]) (rest := []) (ls'' := [some (.ref 141), some (pw_i 61), none]) (by omega) E rfl (fun _ => pw_iV rfl rfl rfl rfl (pw_cellI f19h rfl)) (rfl : pm_ent 256 = some (2, 3, 12, 1, pmc_256)) rfl rfl (cm_256 (by omega) h3I h3A (61) (by omega) (by omega)) ?_
      rintro h20 v21 ⟨x22, rfl, x22a, ⟨x22b, h20c⟩ | ⟨x22b, h20I, h20E, h20A, h20R, h207⟩⟩
      · refine ⟨_, rfl, ?_⟩
        subst h20c
        change x22 = pw_sg h3 61 at x22a
        change x22 = 0 at x22b
        show pw X d h3 249 27 [some (.ref 141), some (pw_i dp), some (pw_i x12)] [pw_i x22] _
        refine pw_if E (pc' := 51) rfl (by decide) (by omega) (by omega) ?_ ?_
        · intro hc23
          change x22 = (0 : Int) at hc23
          refine pw_vret E rfl ?_
          exact ⟨h3I, h3F, ⟨h3A, R5.wk (by decide)⟩, rfl⟩
        · intro hc24
          change ¬ (x22 = (0 : Int)) at hc24
          exfalso; omega
      · refine ⟨_, rfl, ?_⟩
        have h20F := h3F.tr (h20E.wk (W' := [125, 146, 147]) (by first | rfl | simp))
        change x22 = 1 at x22b
        have R25 : pw_R 1 0 1 h h20 := R5.tr (h20R : pw_R 1 0 0 h3 h20) (by decide) (by decide) (by decide)
        have hA26 : pw_g h20 125 7 ≤ n ∧ 0 ≤ pw_g h20 125 8 ∧ 0 ≤ pw_g h20 125 7 ∧ 0 ≤ pw_g h20 125 32 := h20A.2.2
        have hA27 : pw_g h 125 7 - pw_g h 125 32 + 1 ≤ pw_g h20 125 7 - pw_g h20 125 32 := R25.1.2.2.2.1
        have hA28 : pw_g h3 125 7 ≤ pw_g h20 125 7 := h20R.1.2.1
        have hA28z : pw_g h20 125 8 = 0 → pw_g h3 125 8 = 0 := h20R.1.1
        show pw X d h20 249 27 [some (.ref 141), some (pw_i dp), some (pw_i x12)] [pw_i x22] _
        refine pw_if E (pc' := 51) rfl (by decide) (by omega) (by omega) ?_ ?_
        · intro hc29
          change x22 = (0 : Int) at hc29
          exfalso; omega
        · intro hc30
          change ¬ (x22 = (0 : Int)) at hc30
          refine pw_ld E (pc' := 31) (st' := [.ref 141]) rfl (fun _ => rfl) ?_
          refine pw_ld E (pc' := 32) (st' := [pw_i dp, .ref 141]) rfl (fun _ => rfl) ?_
          obtain ⟨f31l, f31h, -⟩ := pw_obj (c := 125) h20I rfl
          refine pw_call (m' := 250) (As := [.ref 141, pw_i dp]) (rest := []) (ls'' := [some (.ref 141), some (pw_i dp), none]) (by omega) E rfl (fun _ => pw_iV rfl rfl rfl rfl (pw_cellI f31h rfl)) (rfl : pm_ent 250 = some (2, 3, 12, 4, pmc_250)) rfl rfl (hT (by omega) h20I h20A (by omega)) ?_
          rintro h32 v33 ⟨h32I, h32E, ⟨h32A, h32R⟩, rfl⟩
          refine ⟨_, rfl, ?_⟩
          have h32F := h20F.tr (h32E.wk (W' := [125, 146, 147]) (by first | rfl | simp))
          show pw X d h32 249 35 [some (.ref 141), some (pw_i dp), some (pw_i x12)] [] _
          have R34 : pw_R 1 0 2 h h32 := R25.tr (h32R : pw_R 0 0 1 h20 h32) (by decide) (by decide) (by decide)
          have hA35 : pw_g h32 125 7 ≤ n ∧ 0 ≤ pw_g h32 125 8 ∧ 0 ≤ pw_g h32 125 7 ∧ 0 ≤ pw_g h32 125 32 := h32A.2.2
          have hA36 : pw_g h 125 7 - pw_g h 125 32 + 1 ≤ pw_g h32 125 7 - pw_g h32 125 32 := R34.1.2.2.2.1
          have hA37 : pw_g h20 125 7 ≤ pw_g h32 125 7 := h32R.1.2.1
          have hA37z : pw_g h32 125 8 = 0 → pw_g h20 125 8 = 0 := h32R.1.1
          refine pw_ld E (pc' := 36) (st' := [.ref 141]) rfl (fun _ => rfl) ?_
          refine pw_ld E (pc' := 37) (st' := [pw_i x12, .ref 141]) rfl (fun _ => rfl) ?_
          refine pw_if E (pc' := 45) rfl (by decide) (by omega) (by omega) ?_ ?_
          · intro hc38
            change x12 = (0 : Int) at hc38
            refine pw_bip E (pc' := 47) rfl rfl (by decide) ?_
            refine pw_ld E (pc' := 48) (st' := [pw_i 0, pw_i 8, .ref 141]) rfl (fun _ => rfl) ?_
            obtain ⟨f39l, f39h, -⟩ := pw_obj (c := 125) h32I rfl
            refine pw_call (m' := 255) (As := [.ref 141, pw_i 8, pw_i 0]) (rest := []) (ls'' := [some (.ref 141), some (pw_i 8), some (pw_i 0)]) (by omega) E rfl (fun _ => pw_iV rfl rfl rfl rfl (pw_cellI f39h rfl)) (rfl : pm_ent 255 = some (3, 3, 12, 4, pmc_255)) rfl rfl (cm_255 (by omega) h32I h32A (by omega) (8) (by omega) (by omega) (0) (by omega) (by omega)) ?_
            rintro h40 v41 ⟨h40I, h40E, ⟨h408, h407, h40c, h40o, h40g, h40u⟩, rfl⟩
            refine ⟨_, rfl, ?_⟩
            have h40F := h32F.tr (h40E.wk (W' := [125, 146, 147]) (by first | rfl | simp))
            show pw X d h40 249 51 [some (.ref 141), some (pw_i dp), some (pw_i x12)] [] _
            have h40A : pw_A n h40 := ⟨hn1, by rw [pw_Eg (c := 127) h32I h40E rfl rfl]; exact h32A.2.1, by omega, by omega, by omega, by omega⟩
            have h40R : pw_R (-1) 2 (-1) h32 h40 := pw_R.emit (c := 8) (Or.inr (Or.inr ⟨rfl, rfl, by decide⟩)) (by omega) (by omega) h408 h407 h40c h40o h40u
            have R42 : pw_R 0 0 1 h h40 := R34.tr (h40R : pw_R (-1) 2 (-1) h32 h40) (by decide) (by decide) (by decide)
            have hA43 : pw_g h40 125 7 ≤ n ∧ 0 ≤ pw_g h40 125 8 ∧ 0 ≤ pw_g h40 125 7 ∧ 0 ≤ pw_g h40 125 32 := h40A.2.2
            have hA44 : pw_g h 125 7 - pw_g h 125 32 + 0 ≤ pw_g h40 125 7 - pw_g h40 125 32 := R42.1.2.2.2.1
            have hA45 : pw_g h32 125 7 ≤ pw_g h40 125 7 := h40R.1.2.1
            have hA45z : pw_g h40 125 8 = 0 → pw_g h32 125 8 = 0 := h40R.1.1
            refine pw_vret E rfl ?_
            exact ⟨h40I, h40F, ⟨h40A, R42.wk (by decide)⟩, rfl⟩
          · intro hc46
            change ¬ (x12 = (0 : Int)) at hc46
            refine pw_bip E (pc' := 42) rfl rfl (by decide) ?_
            refine pw_goto E (pc' := 47) rfl (by decide) ?_
            refine pw_ld E (pc' := 48) (st' := [pw_i 0, pw_i 7, .ref 141]) rfl (fun _ => rfl) ?_
            obtain ⟨f47l, f47h, -⟩ := pw_obj (c := 125) h32I rfl
            refine pw_call (m' := 255) (As := [.ref 141, pw_i 7, pw_i 0]) (rest := []) (ls'' := [some (.ref 141), some (pw_i 7), some (pw_i 0)]) (by omega) E rfl (fun _ => pw_iV rfl rfl rfl rfl (pw_cellI f47h rfl)) (rfl : pm_ent 255 = some (3, 3, 12, 4, pmc_255)) rfl rfl (cm_255 (by omega) h32I h32A (by omega) (7) (by omega) (by omega) (0) (by omega) (by omega)) ?_
            rintro h48 v49 ⟨h48I, h48E, ⟨h488, h487, h48c, h48o, h48g, h48u⟩, rfl⟩
            refine ⟨_, rfl, ?_⟩
            have h48F := h32F.tr (h48E.wk (W' := [125, 146, 147]) (by first | rfl | simp))
            show pw X d h48 249 51 [some (.ref 141), some (pw_i dp), some (pw_i x12)] [] _
            have h48A : pw_A n h48 := ⟨hn1, by rw [pw_Eg (c := 127) h32I h48E rfl rfl]; exact h32A.2.1, by omega, by omega, by omega, by omega⟩
            have h48R : pw_R (-1) 2 (-1) h32 h48 := pw_R.emit (c := 7) (Or.inr (Or.inr ⟨rfl, rfl, by decide⟩)) (by omega) (by omega) h488 h487 h48c h48o h48u
            have R50 : pw_R 0 0 1 h h48 := R34.tr (h48R : pw_R (-1) 2 (-1) h32 h48) (by decide) (by decide) (by decide)
            have hA51 : pw_g h48 125 7 ≤ n ∧ 0 ≤ pw_g h48 125 8 ∧ 0 ≤ pw_g h48 125 7 ∧ 0 ≤ pw_g h48 125 32 := h48A.2.2
            have hA52 : pw_g h 125 7 - pw_g h 125 32 + 0 ≤ pw_g h48 125 7 - pw_g h48 125 32 := R50.1.2.2.2.1
            have hA53 : pw_g h32 125 7 ≤ pw_g h48 125 7 := h48R.1.2.1
            have hA53z : pw_g h48 125 8 = 0 → pw_g h32 125 8 = 0 := h48R.1.1
            refine pw_vret E rfl ?_
            exact ⟨h48I, h48F, ⟨h48A, R50.wk (by decide)⟩, rfl⟩
  · refine ⟨_, rfl, ?_⟩
    have h14F := h3F.tr (h14E.wk (W' := [125, 146, 147]) (by first | rfl | simp))
    change x16 = 1 at x16b
    have R54 : pw_R 1 0 1 h h14 := R5.tr (h14R : pw_R 1 0 0 h3 h14) (by decide) (by decide) (by decide)
    have hA55 : pw_g h14 125 7 ≤ n ∧ 0 ≤ pw_g h14 125 8 ∧ 0 ≤ pw_g h14 125 7 ∧ 0 ≤ pw_g h14 125 32 := h14A.2.2
    have hA56 : pw_g h 125 7 - pw_g h 125 32 + 1 ≤ pw_g h14 125 7 - pw_g h14 125 32 := R54.1.2.2.2.1
    have hA57 : pw_g h3 125 7 ≤ pw_g h14 125 7 := h14R.1.2.1
    have hA57z : pw_g h14 125 8 = 0 → pw_g h3 125 8 = 0 := h14R.1.1
    show pw X d h14 249 18 [some (.ref 141), some (pw_i dp), some (pw_i x12)] [pw_i x16] _
    refine pw_if E (pc' := 30) rfl (by decide) (by omega) (by omega) ?_ ?_
    · intro hc58
      change x16 ≠ (0 : Int) at hc58
      refine pw_ld E (pc' := 31) (st' := [.ref 141]) rfl (fun _ => rfl) ?_
      refine pw_ld E (pc' := 32) (st' := [pw_i dp, .ref 141]) rfl (fun _ => rfl) ?_
      obtain ⟨f59l, f59h, -⟩ := pw_obj (c := 125) h14I rfl
      refine pw_call (m' := 250) (As := [.ref 141, pw_i dp]) (rest := []) (ls'' := [some (.ref 141), some (pw_i dp), none]) (by omega) E rfl (fun _ => pw_iV rfl rfl rfl rfl (pw_cellI f59h rfl)) (rfl : pm_ent 250 = some (2, 3, 12, 4, pmc_250)) rfl rfl (hT (by omega) h14I h14A (by omega)) ?_
      rintro h60 v61 ⟨h60I, h60E, ⟨h60A, h60R⟩, rfl⟩
      refine ⟨_, rfl, ?_⟩
      have h60F := h14F.tr (h60E.wk (W' := [125, 146, 147]) (by first | rfl | simp))
      show pw X d h60 249 35 [some (.ref 141), some (pw_i dp), some (pw_i x12)] [] _
      have R62 : pw_R 1 0 2 h h60 := R54.tr (h60R : pw_R 0 0 1 h14 h60) (by decide) (by decide) (by decide)
      have hA63 : pw_g h60 125 7 ≤ n ∧ 0 ≤ pw_g h60 125 8 ∧ 0 ≤ pw_g h60 125 7 ∧ 0 ≤ pw_g h60 125 32 := h60A.2.2
      have hA64 : pw_g h 125 7 - pw_g h 125 32 + 1 ≤ pw_g h60 125 7 - pw_g h60 125 32 := R62.1.2.2.2.1
      have hA65 : pw_g h14 125 7 ≤ pw_g h60 125 7 := h60R.1.2.1
      have hA65z : pw_g h60 125 8 = 0 → pw_g h14 125 8 = 0 := h60R.1.1
      refine pw_ld E (pc' := 36) (st' := [.ref 141]) rfl (fun _ => rfl) ?_
      refine pw_ld E (pc' := 37) (st' := [pw_i x12, .ref 141]) rfl (fun _ => rfl) ?_
      refine pw_if E (pc' := 45) rfl (by decide) (by omega) (by omega) ?_ ?_
      · intro hc66
        change x12 = (0 : Int) at hc66
        refine pw_bip E (pc' := 47) rfl rfl (by decide) ?_
        refine pw_ld E (pc' := 48) (st' := [pw_i 0, pw_i 8, .ref 141]) rfl (fun _ => rfl) ?_
        obtain ⟨f67l, f67h, -⟩ := pw_obj (c := 125) h60I rfl
        refine pw_call (m' := 255) (As := [.ref 141, pw_i 8, pw_i 0]) (rest := []) (ls'' := [some (.ref 141), some (pw_i 8), some (pw_i 0)]) (by omega) E rfl (fun _ => pw_iV rfl rfl rfl rfl (pw_cellI f67h rfl)) (rfl : pm_ent 255 = some (3, 3, 12, 4, pmc_255)) rfl rfl (cm_255 (by omega) h60I h60A (by omega) (8) (by omega) (by omega) (0) (by omega) (by omega)) ?_
        rintro h68 v69 ⟨h68I, h68E, ⟨h688, h687, h68c, h68o, h68g, h68u⟩, rfl⟩
        refine ⟨_, rfl, ?_⟩
        have h68F := h60F.tr (h68E.wk (W' := [125, 146, 147]) (by first | rfl | simp))
        show pw X d h68 249 51 [some (.ref 141), some (pw_i dp), some (pw_i x12)] [] _
        have h68A : pw_A n h68 := ⟨hn1, by rw [pw_Eg (c := 127) h60I h68E rfl rfl]; exact h60A.2.1, by omega, by omega, by omega, by omega⟩
        have h68R : pw_R (-1) 2 (-1) h60 h68 := pw_R.emit (c := 8) (Or.inr (Or.inr ⟨rfl, rfl, by decide⟩)) (by omega) (by omega) h688 h687 h68c h68o h68u
        have R70 : pw_R 0 0 1 h h68 := R62.tr (h68R : pw_R (-1) 2 (-1) h60 h68) (by decide) (by decide) (by decide)
        have hA71 : pw_g h68 125 7 ≤ n ∧ 0 ≤ pw_g h68 125 8 ∧ 0 ≤ pw_g h68 125 7 ∧ 0 ≤ pw_g h68 125 32 := h68A.2.2
        have hA72 : pw_g h 125 7 - pw_g h 125 32 + 0 ≤ pw_g h68 125 7 - pw_g h68 125 32 := R70.1.2.2.2.1
        have hA73 : pw_g h60 125 7 ≤ pw_g h68 125 7 := h68R.1.2.1
        have hA73z : pw_g h68 125 8 = 0 → pw_g h60 125 8 = 0 := h68R.1.1
        refine pw_vret E rfl ?_
        exact ⟨h68I, h68F, ⟨h68A, R70.wk (by decide)⟩, rfl⟩
      · intro hc74
        change ¬ (x12 = (0 : Int)) at hc74
        refine pw_bip E (pc' := 42) rfl rfl (by decide) ?_
        refine pw_goto E (pc' := 47) rfl (by decide) ?_
        refine pw_ld E (pc' := 48) (st' := [pw_i 0, pw_i 7, .ref 141]) rfl (fun _ => rfl) ?_
        obtain ⟨f75l, f75h, -⟩ := pw_obj (c := 125) h60I rfl
        refine pw_call (m' := 255) (As := [.ref 141, pw_i 7, pw_i 0]) (rest := []) (ls'' := [some (.ref 141), some (pw_i 7), some (pw_i 0)]) (by omega) E rfl (fun _ => pw_iV rfl rfl rfl rfl (pw_cellI f75h rfl)) (rfl : pm_ent 255 = some (3, 3, 12, 4, pmc_255)) rfl rfl (cm_255 (by omega) h60I h60A (by omega) (7) (by omega) (by omega) (0) (by omega) (by omega)) ?_
        rintro h76 v77 ⟨h76I, h76E, ⟨h768, h767, h76c, h76o, h76g, h76u⟩, rfl⟩
        refine ⟨_, rfl, ?_⟩
        have h76F := h60F.tr (h76E.wk (W' := [125, 146, 147]) (by first | rfl | simp))
        show pw X d h76 249 51 [some (.ref 141), some (pw_i dp), some (pw_i x12)] [] _
        have h76A : pw_A n h76 := ⟨hn1, by rw [pw_Eg (c := 127) h60I h76E rfl rfl]; exact h60A.2.1, by omega, by omega, by omega, by omega⟩
        have h76R : pw_R (-1) 2 (-1) h60 h76 := pw_R.emit (c := 7) (Or.inr (Or.inr ⟨rfl, rfl, by decide⟩)) (by omega) (by omega) h768 h767 h76c h76o h76u
        have R78 : pw_R 0 0 1 h h76 := R62.tr (h76R : pw_R (-1) 2 (-1) h60 h76) (by decide) (by decide) (by decide)
        have hA79 : pw_g h76 125 7 ≤ n ∧ 0 ≤ pw_g h76 125 8 ∧ 0 ≤ pw_g h76 125 7 ∧ 0 ≤ pw_g h76 125 32 := h76A.2.2
        have hA80 : pw_g h 125 7 - pw_g h 125 32 + 0 ≤ pw_g h76 125 7 - pw_g h76 125 32 := R78.1.2.2.2.1
        have hA81 : pw_g h60 125 7 ≤ pw_g h76 125 7 := h76R.1.2.1
        have hA81z : pw_g h76 125 8 = 0 → pw_g h60 125 8 = 0 := h76R.1.1
        refine pw_vret E rfl ?_
        exact ⟨h76I, h76F, ⟨h76A, R78.wk (by decide)⟩, rfl⟩
    · intro hc82
      change ¬ (x16 ≠ (0 : Int)) at hc82
      exfalso; omega
set_option maxHeartbeats 4000000 in
theorem cm_248 {X : List (Nat × List Value)} (dp : Int) (hdp1 : 0 ≤ dp) (hdp2 : dp ≤ 5) (hT : pw_C249 X dp) {d : Nat} {h : pm_H} (hd : (32 - 5 * dp : Int) ≤ d) (I : pw_I h) {n : Nat} (A : pw_A n h) (hs : pw_g h 125 32 ≤ pw_g h 125 7) : pw X d h 248 0 [some (.ref 141), some (pw_i dp), none] [] (fun h' v => pw_I h' ∧ pw_E [125, 146, 147] h h' ∧ (pw_A n h' ∧ pw_R 0 0 1 h h') ∧ (v = .inl none)) := by
  have E : pm_ent 248 = some (2, 3, 12, 4, pmc_248) := rfl
  have E0 : pw_E [125, 146, 147] h h := pw_E.rf _ _
  have R0 : pw_R 0 0 0 h h := pw_R.rf A.2.2.2.2.2
  have hn1 : n ≤ 1000 := A.1
  have hA1 : pw_g h 125 7 ≤ n ∧ 0 ≤ pw_g h 125 8 ∧ 0 ≤ pw_g h 125 7 ∧ 0 ≤ pw_g h 125 32 := A.2.2
  refine pw_ld E (pc' := 1) (st' := [.ref 141]) rfl (fun _ => rfl) ?_
  refine pw_ld E (pc' := 2) (st' := [pw_i dp, .ref 141]) rfl (fun _ => rfl) ?_
  obtain ⟨f2l, f2h, -⟩ := pw_obj (c := 125) I rfl
  refine pw_call (m' := 249) (As := [.ref 141, pw_i dp]) (rest := []) (ls'' := [some (.ref 141), some (pw_i dp), none]) (by omega) E rfl (fun _ => pw_iV rfl rfl rfl rfl (pw_cellI f2h rfl)) (rfl : pm_ent 249 = some (2, 3, 12, 4, pmc_249)) rfl rfl (hT (by omega) I A (by omega)) ?_
  rintro h3 v4 ⟨h3I, h3E, ⟨h3A, h3R⟩, rfl⟩
  refine ⟨_, rfl, ?_⟩
  have h3F := E0.tr (h3E.wk (W' := [125, 146, 147]) (by first | rfl | simp))
  show pw X d h3 248 5 [some (.ref 141), some (pw_i dp), none] [] _
  have R5 : pw_R 0 0 1 h h3 := R0.tr (h3R : pw_R 0 0 1 h h3) (by decide) (by decide) (by decide)
  have hA6 : pw_g h3 125 7 ≤ n ∧ 0 ≤ pw_g h3 125 8 ∧ 0 ≤ pw_g h3 125 7 ∧ 0 ≤ pw_g h3 125 32 := h3A.2.2
  have hA7 : pw_g h 125 7 - pw_g h 125 32 + 0 ≤ pw_g h3 125 7 - pw_g h3 125 32 := R5.1.2.2.2.1
  have hA8 : pw_g h 125 7 ≤ pw_g h3 125 7 := h3R.1.2.1
  have hA8z : pw_g h3 125 8 = 0 → pw_g h 125 8 = 0 := h3R.1.1
  have L5 : ∀ (n5 : Nat) (k5_2 : Option Value) (gh5 : pm_H), pw_I gh5 → pw_E [125, 146, 147] h gh5 → pw_A n gh5 → pw_R 0 0 1 h gh5 → ((n : Int) - pw_g gh5 125 7).toNat = n5 → pw X d gh5 248 5 [some (.ref 141), some (pw_i dp), k5_2] [] (fun h' v => pw_I h' ∧ pw_E [125, 146, 147] h h' ∧ (pw_A n h' ∧ pw_R 0 0 1 h h') ∧ (v = .inl none)) := by
    intro n5
    induction n5 using Nat.strongRecOn with
    | ind n5 ih5 =>
      intro k5_2 gh5 I5 E5 A5 R5 hm5
      have hAh5 : pw_g gh5 125 7 ≤ n ∧ 0 ≤ pw_g gh5 125 8 ∧ 0 ≤ pw_g gh5 125 7 ∧ 0 ≤ pw_g gh5 125 32 := A5.2.2
      have hAi5 : pw_g h 125 7 - pw_g h 125 32 + 0 ≤ pw_g gh5 125 7 - pw_g gh5 125 32 := R5.1.2.2.2.1
      refine pw_ld E (pc' := 6) (st' := [.ref 141]) rfl (fun _ => rfl) ?_
      refine pw_ld E (pc' := 7) (st' := [pw_i 5, .ref 141]) rfl (fun _ => rfl) ?_
      obtain ⟨f9l, f9h, -⟩ := pw_obj (c := 125) I5 rfl
      refine pw_call (m' := 244) (As := [.ref 141, pw_i 5]) (rest := []) (ls'' := [some (.ref 141), some (pw_i 5)]) (by omega) E rfl (fun _ => pw_iV rfl rfl rfl rfl (pw_cellI f9h rfl)) (rfl : pm_ent 244 = some (2, 2, 12, 1, pmc_244)) rfl rfl (cm_244 (by omega) I5 (5) (by omega) (by omega)) ?_
      rintro u11 v10 ⟨rfl, x12, rfl, hx12a, hx12b, hx12r⟩
      refine ⟨_, rfl, ?_⟩
      show pw X d gh5 248 10 [some (.ref 141), some (pw_i dp), k5_2] [pw_i x12] _
      change x12 = pw_wd gh5 5 ∧ (x12 = 1 → pw_g gh5 125 8 = 0 ∧ pw_g gh5 127 (pw_g gh5 125 7).toNat = 1) at hx12r
      rcases (by omega : x12 = 1 ∨ x12 = 0) with hb13 | hb13
      · skip
        refine pw_if E (pc' := 22) rfl (by decide) (by omega) (by omega) ?_ ?_
        · intro hc14
          change x12 ≠ (0 : Int) at hc14
          refine pw_ld E (pc' := 23) (st' := [.ref 141]) rfl (fun _ => rfl) ?_
          refine pw_ld E (pc' := 24) (st' := [pw_i 5, .ref 141]) rfl (fun _ => rfl) ?_
          obtain ⟨f15l, f15h, -⟩ := pw_obj (c := 125) I5 rfl
          refine pw_call (m' := 244) (As := [.ref 141, pw_i 5]) (rest := []) (ls'' := [some (.ref 141), some (pw_i 5)]) (by omega) E rfl (fun _ => pw_iV rfl rfl rfl rfl (pw_cellI f15h rfl)) (rfl : pm_ent 244 = some (2, 2, 12, 1, pmc_244)) rfl rfl (cm_244 (by omega) I5 (5) (by omega) (by omega)) ?_
          rintro u17 v16 ⟨rfl, x18, rfl, hx18a, hx18b, hx18r⟩
          refine ⟨_, rfl, ?_⟩
          show pw X d gh5 248 27 [some (.ref 141), some (pw_i dp), k5_2] [pw_i x18] _
          change x18 = pw_wd gh5 5 ∧ (x18 = 1 → pw_g gh5 125 8 = 0 ∧ pw_g gh5 127 (pw_g gh5 125 7).toNat = 1) at hx18r
          refine pw_istn E (pc' := 28) (ls' := [some (.ref 141), some (pw_i dp), some (pw_i x18)]) rfl rfl rfl rfl ?_
          refine pw_ld E (pc' := 29) (st' := [.ref 141]) rfl (fun _ => rfl) ?_
          refine pw_ld E (pc' := 30) (st' := [.ref 141, .ref 141]) rfl (fun _ => rfl) ?_
          refine pw_getI2 I5 E (c := 125) (k := 7) (pc' := 33) rfl rfl rfl rfl rfl rfl (fun hf19a hf19b => ?_)
          refine pw_ld E (pc' := 34) (st' := [pw_i 1, pw_i (pw_g gh5 125 7), .ref 141]) rfl (fun _ => rfl) ?_
          refine pw_add E (pc' := 35) rfl rfl ?_
          have hlt20 : (pw_g gh5 125 7) + 1 ≤ 1001 ∧ (pw_g gh5 125 7) + 1 ≤ n := by first | omega | (have := pw_A.lt A5 (by omega); omega) | (have := pw_A.lt A (by omega); omega)
          refine pw_putI I5 E (c := 125) (k := 7) (pc' := 38) rfl rfl rfl rfl (by omega) (by omega) (by omega) (by omega) rfl rfl ?_
          intro h21I h21E
          generalize h21w : pw_w gh5 125 7 (pw_i ((pw_g gh5 125 7) + 1)) = h21 at h21I h21E ⊢
          have h21F := E5.tr (h21E.wk (W' := [125, 146, 147]) (by first | rfl | simp))
          have h217 : pw_g h21 125 7 = pw_g gh5 125 7 + 1 := by rw [← h21w]; exact pw_g_eq (c := 125) (k := 7) I5 rfl rfl (by omega) (by omega)
          have h218 : pw_g h21 125 8 = pw_g gh5 125 8 := by rw [← h21w]; exact pw_g_ne (by omega)
          have h219 : pw_g h21 125 32 = pw_g gh5 125 32 := by rw [← h21w]; exact pw_g_ne (by omega)
          have h21A : pw_A n h21 := ⟨hn1, by rw [← h21w, pw_g_ne (by omega)]; exact A5.2.1, by omega, by omega, by omega, by omega⟩
          have h21R : pw_R 1 0 0 gh5 h21 := pw_R.same (by decide) (by omega) (by omega) h217 h219 (fun j => by rw [← h21w]; exact pw_g_ne (by omega)) (fun j => by rw [← h21w]; exact pw_g_ne (by omega))
          have R22 : pw_R 1 0 1 h h21 := R5.tr (h21R : pw_R 1 0 0 gh5 h21) (by decide) (by decide) (by decide)
          have hA23 : pw_g h21 125 7 ≤ n ∧ 0 ≤ pw_g h21 125 8 ∧ 0 ≤ pw_g h21 125 7 ∧ 0 ≤ pw_g h21 125 32 := h21A.2.2
          have hA24 : pw_g h 125 7 - pw_g h 125 32 + 1 ≤ pw_g h21 125 7 - pw_g h21 125 32 := R22.1.2.2.2.1
          have hA25 : pw_g gh5 125 7 ≤ pw_g h21 125 7 := h21R.1.2.1
          have hA25z : pw_g h21 125 8 = 0 → pw_g gh5 125 8 = 0 := h21R.1.1
          refine pw_ld E (pc' := 39) (st' := [.ref 141]) rfl (fun _ => rfl) ?_
          refine pw_ld E (pc' := 40) (st' := [pw_i dp, .ref 141]) rfl (fun _ => rfl) ?_
          obtain ⟨f26l, f26h, -⟩ := pw_obj (c := 125) h21I rfl
          refine pw_call (m' := 249) (As := [.ref 141, pw_i dp]) (rest := []) (ls'' := [some (.ref 141), some (pw_i dp), none]) (by omega) E rfl (fun _ => pw_iV rfl rfl rfl rfl (pw_cellI f26h rfl)) (rfl : pm_ent 249 = some (2, 3, 12, 4, pmc_249)) rfl rfl (hT (by omega) h21I h21A (by omega)) ?_
          rintro h27 v28 ⟨h27I, h27E, ⟨h27A, h27R⟩, rfl⟩
          refine ⟨_, rfl, ?_⟩
          have h27F := h21F.tr (h27E.wk (W' := [125, 146, 147]) (by first | rfl | simp))
          show pw X d h27 248 43 [some (.ref 141), some (pw_i dp), some (pw_i x18)] [] _
          have R29 : pw_R 1 0 2 h h27 := R22.tr (h27R : pw_R 0 0 1 h21 h27) (by decide) (by decide) (by decide)
          have hA30 : pw_g h27 125 7 ≤ n ∧ 0 ≤ pw_g h27 125 8 ∧ 0 ≤ pw_g h27 125 7 ∧ 0 ≤ pw_g h27 125 32 := h27A.2.2
          have hA31 : pw_g h 125 7 - pw_g h 125 32 + 1 ≤ pw_g h27 125 7 - pw_g h27 125 32 := R29.1.2.2.2.1
          have hA32 : pw_g h21 125 7 ≤ pw_g h27 125 7 := h27R.1.2.1
          have hA32z : pw_g h27 125 8 = 0 → pw_g h21 125 8 = 0 := h27R.1.1
          refine pw_ld E (pc' := 44) (st' := [.ref 141]) rfl (fun _ => rfl) ?_
          refine pw_ld E (pc' := 45) (st' := [pw_i x18, .ref 141]) rfl (fun _ => rfl) ?_
          refine pw_if E (pc' := 53) rfl (by decide) (by omega) (by omega) ?_ ?_
          · intro hc33
            change x18 = (0 : Int) at hc33
            refine pw_bip E (pc' := 55) rfl rfl (by decide) ?_
            refine pw_ld E (pc' := 56) (st' := [pw_i 0, pw_i 10, .ref 141]) rfl (fun _ => rfl) ?_
            obtain ⟨f34l, f34h, -⟩ := pw_obj (c := 125) h27I rfl
            refine pw_call (m' := 255) (As := [.ref 141, pw_i 10, pw_i 0]) (rest := []) (ls'' := [some (.ref 141), some (pw_i 10), some (pw_i 0)]) (by omega) E rfl (fun _ => pw_iV rfl rfl rfl rfl (pw_cellI f34h rfl)) (rfl : pm_ent 255 = some (3, 3, 12, 4, pmc_255)) rfl rfl (cm_255 (by omega) h27I h27A (by omega) (10) (by omega) (by omega) (0) (by omega) (by omega)) ?_
            rintro h35 v36 ⟨h35I, h35E, ⟨h358, h357, h35c, h35o, h35g, h35u⟩, rfl⟩
            refine ⟨_, rfl, ?_⟩
            have h35F := h27F.tr (h35E.wk (W' := [125, 146, 147]) (by first | rfl | simp))
            show pw X d h35 248 59 [some (.ref 141), some (pw_i dp), some (pw_i x18)] [] _
            have h35A : pw_A n h35 := ⟨hn1, by rw [pw_Eg (c := 127) h27I h35E rfl rfl]; exact h27A.2.1, by omega, by omega, by omega, by omega⟩
            have h35R : pw_R (-1) 2 (-1) h27 h35 := pw_R.emit (c := 10) (Or.inr (Or.inr ⟨rfl, rfl, by decide⟩)) (by omega) (by omega) h358 h357 h35c h35o h35u
            have R37 : pw_R 0 0 1 h h35 := R29.tr (h35R : pw_R (-1) 2 (-1) h27 h35) (by decide) (by decide) (by decide)
            have hA38 : pw_g h35 125 7 ≤ n ∧ 0 ≤ pw_g h35 125 8 ∧ 0 ≤ pw_g h35 125 7 ∧ 0 ≤ pw_g h35 125 32 := h35A.2.2
            have hA39 : pw_g h 125 7 - pw_g h 125 32 + 0 ≤ pw_g h35 125 7 - pw_g h35 125 32 := R37.1.2.2.2.1
            have hA40 : pw_g h27 125 7 ≤ pw_g h35 125 7 := h35R.1.2.1
            have hA40z : pw_g h35 125 8 = 0 → pw_g h27 125 8 = 0 := h35R.1.1
            refine pw_goto E (pc' := 5) rfl (by decide) ?_
            exact ih5 _ (by omega) (some (pw_i x18)) h35 h35I h35F h35A (R37.wk (by decide))   rfl
          · intro hc41
            change ¬ (x18 = (0 : Int)) at hc41
            refine pw_bip E (pc' := 50) rfl rfl (by decide) ?_
            refine pw_goto E (pc' := 55) rfl (by decide) ?_
            refine pw_ld E (pc' := 56) (st' := [pw_i 0, pw_i 9, .ref 141]) rfl (fun _ => rfl) ?_
            obtain ⟨f42l, f42h, -⟩ := pw_obj (c := 125) h27I rfl
            refine pw_call (m' := 255) (As := [.ref 141, pw_i 9, pw_i 0]) (rest := []) (ls'' := [some (.ref 141), some (pw_i 9), some (pw_i 0)]) (by omega) E rfl (fun _ => pw_iV rfl rfl rfl rfl (pw_cellI f42h rfl)) (rfl : pm_ent 255 = some (3, 3, 12, 4, pmc_255)) rfl rfl (cm_255 (by omega) h27I h27A (by omega) (9) (by omega) (by omega) (0) (by omega) (by omega)) ?_
            rintro h43 v44 ⟨h43I, h43E, ⟨h438, h437, h43c, h43o, h43g, h43u⟩, rfl⟩
            refine ⟨_, rfl, ?_⟩
            have h43F := h27F.tr (h43E.wk (W' := [125, 146, 147]) (by first | rfl | simp))
            show pw X d h43 248 59 [some (.ref 141), some (pw_i dp), some (pw_i x18)] [] _
            have h43A : pw_A n h43 := ⟨hn1, by rw [pw_Eg (c := 127) h27I h43E rfl rfl]; exact h27A.2.1, by omega, by omega, by omega, by omega⟩
            have h43R : pw_R (-1) 2 (-1) h27 h43 := pw_R.emit (c := 9) (Or.inr (Or.inr ⟨rfl, rfl, by decide⟩)) (by omega) (by omega) h438 h437 h43c h43o h43u
            have R45 : pw_R 0 0 1 h h43 := R29.tr (h43R : pw_R (-1) 2 (-1) h27 h43) (by decide) (by decide) (by decide)
            have hA46 : pw_g h43 125 7 ≤ n ∧ 0 ≤ pw_g h43 125 8 ∧ 0 ≤ pw_g h43 125 7 ∧ 0 ≤ pw_g h43 125 32 := h43A.2.2
            have hA47 : pw_g h 125 7 - pw_g h 125 32 + 0 ≤ pw_g h43 125 7 - pw_g h43 125 32 := R45.1.2.2.2.1
            have hA48 : pw_g h27 125 7 ≤ pw_g h43 125 7 := h43R.1.2.1
            have hA48z : pw_g h43 125 8 = 0 → pw_g h27 125 8 = 0 := h43R.1.1
            refine pw_goto E (pc' := 5) rfl (by decide) ?_
            exact ih5 _ (by omega) (some (pw_i x18)) h43 h43I h43F h43A (R45.wk (by decide))   rfl
        · intro hc49
          change ¬ (x12 ≠ (0 : Int)) at hc49
          exfalso; omega
      · skip
        refine pw_if E (pc' := 22) rfl (by decide) (by omega) (by omega) ?_ ?_
        · intro hc51
          change x12 ≠ (0 : Int) at hc51
          exfalso; omega
        · intro hc52
          change ¬ (x12 ≠ (0 : Int)) at hc52
          refine pw_ld E (pc' := 14) (st' := [.ref 141]) rfl (fun _ => rfl) ?_
          refine pw_bip E (pc' := 16) rfl rfl (by decide) ?_
          obtain ⟨f53l, f53h, -⟩ := pw_obj (c := 125) I5 rfl
          refine pw_call (m' := 244) (As := [.ref 141, pw_i 6]) (rest := []) (ls'' := [some (.ref 141), some (pw_i 6)]) (by omega) E rfl (fun _ => pw_iV rfl rfl rfl rfl (pw_cellI f53h rfl)) (rfl : pm_ent 244 = some (2, 2, 12, 1, pmc_244)) rfl rfl (cm_244 (by omega) I5 (6) (by omega) (by omega)) ?_
          rintro u55 v54 ⟨rfl, x56, rfl, hx56a, hx56b, hx56r⟩
          refine ⟨_, rfl, ?_⟩
          show pw X d gh5 248 19 [some (.ref 141), some (pw_i dp), k5_2] [pw_i x56] _
          change x56 = pw_wd gh5 6 ∧ (x56 = 1 → pw_g gh5 125 8 = 0 ∧ pw_g gh5 127 (pw_g gh5 125 7).toNat = 1) at hx56r
          rcases (by omega : x56 = 1 ∨ x56 = 0) with hb57 | hb57
          · skip
            refine pw_if E (pc' := 62) rfl (by decide) (by omega) (by omega) ?_ ?_
            · intro hc58
              change x56 = (0 : Int) at hc58
              exfalso; omega
            · intro hc59
              change ¬ (x56 = (0 : Int)) at hc59
              refine pw_ld E (pc' := 23) (st' := [.ref 141]) rfl (fun _ => rfl) ?_
              refine pw_ld E (pc' := 24) (st' := [pw_i 5, .ref 141]) rfl (fun _ => rfl) ?_
              obtain ⟨f60l, f60h, -⟩ := pw_obj (c := 125) I5 rfl
              refine pw_call (m' := 244) (As := [.ref 141, pw_i 5]) (rest := []) (ls'' := [some (.ref 141), some (pw_i 5)]) (by omega) E rfl (fun _ => pw_iV rfl rfl rfl rfl (pw_cellI f60h rfl)) (rfl : pm_ent 244 = some (2, 2, 12, 1, pmc_244)) rfl rfl (cm_244 (by omega) I5 (5) (by omega) (by omega)) ?_
              rintro u62 v61 ⟨rfl, x63, rfl, hx63a, hx63b, hx63r⟩
              refine ⟨_, rfl, ?_⟩
              show pw X d gh5 248 27 [some (.ref 141), some (pw_i dp), k5_2] [pw_i x63] _
              change x63 = pw_wd gh5 5 ∧ (x63 = 1 → pw_g gh5 125 8 = 0 ∧ pw_g gh5 127 (pw_g gh5 125 7).toNat = 1) at hx63r
              refine pw_istn E (pc' := 28) (ls' := [some (.ref 141), some (pw_i dp), some (pw_i x63)]) rfl rfl rfl rfl ?_
              refine pw_ld E (pc' := 29) (st' := [.ref 141]) rfl (fun _ => rfl) ?_
              refine pw_ld E (pc' := 30) (st' := [.ref 141, .ref 141]) rfl (fun _ => rfl) ?_
              refine pw_getI2 I5 E (c := 125) (k := 7) (pc' := 33) rfl rfl rfl rfl rfl rfl (fun hf64a hf64b => ?_)
              refine pw_ld E (pc' := 34) (st' := [pw_i 1, pw_i (pw_g gh5 125 7), .ref 141]) rfl (fun _ => rfl) ?_
              refine pw_add E (pc' := 35) rfl rfl ?_
              have hlt65 : (pw_g gh5 125 7) + 1 ≤ 1001 ∧ (pw_g gh5 125 7) + 1 ≤ n := by first | omega | (have := pw_A.lt A5 (by omega); omega) | (have := pw_A.lt A (by omega); omega)
              refine pw_putI I5 E (c := 125) (k := 7) (pc' := 38) rfl rfl rfl rfl (by omega) (by omega) (by omega) (by omega) rfl rfl ?_
              intro h66I h66E
              generalize h66w : pw_w gh5 125 7 (pw_i ((pw_g gh5 125 7) + 1)) = h66 at h66I h66E ⊢
              have h66F := E5.tr (h66E.wk (W' := [125, 146, 147]) (by first | rfl | simp))
              have h667 : pw_g h66 125 7 = pw_g gh5 125 7 + 1 := by rw [← h66w]; exact pw_g_eq (c := 125) (k := 7) I5 rfl rfl (by omega) (by omega)
              have h668 : pw_g h66 125 8 = pw_g gh5 125 8 := by rw [← h66w]; exact pw_g_ne (by omega)
              have h669 : pw_g h66 125 32 = pw_g gh5 125 32 := by rw [← h66w]; exact pw_g_ne (by omega)
              have h66A : pw_A n h66 := ⟨hn1, by rw [← h66w, pw_g_ne (by omega)]; exact A5.2.1, by omega, by omega, by omega, by omega⟩
              have h66R : pw_R 1 0 0 gh5 h66 := pw_R.same (by decide) (by omega) (by omega) h667 h669 (fun j => by rw [← h66w]; exact pw_g_ne (by omega)) (fun j => by rw [← h66w]; exact pw_g_ne (by omega))
              have R67 : pw_R 1 0 1 h h66 := R5.tr (h66R : pw_R 1 0 0 gh5 h66) (by decide) (by decide) (by decide)
              have hA68 : pw_g h66 125 7 ≤ n ∧ 0 ≤ pw_g h66 125 8 ∧ 0 ≤ pw_g h66 125 7 ∧ 0 ≤ pw_g h66 125 32 := h66A.2.2
              have hA69 : pw_g h 125 7 - pw_g h 125 32 + 1 ≤ pw_g h66 125 7 - pw_g h66 125 32 := R67.1.2.2.2.1
              have hA70 : pw_g gh5 125 7 ≤ pw_g h66 125 7 := h66R.1.2.1
              have hA70z : pw_g h66 125 8 = 0 → pw_g gh5 125 8 = 0 := h66R.1.1
              refine pw_ld E (pc' := 39) (st' := [.ref 141]) rfl (fun _ => rfl) ?_
              refine pw_ld E (pc' := 40) (st' := [pw_i dp, .ref 141]) rfl (fun _ => rfl) ?_
              obtain ⟨f71l, f71h, -⟩ := pw_obj (c := 125) h66I rfl
              refine pw_call (m' := 249) (As := [.ref 141, pw_i dp]) (rest := []) (ls'' := [some (.ref 141), some (pw_i dp), none]) (by omega) E rfl (fun _ => pw_iV rfl rfl rfl rfl (pw_cellI f71h rfl)) (rfl : pm_ent 249 = some (2, 3, 12, 4, pmc_249)) rfl rfl (hT (by omega) h66I h66A (by omega)) ?_
              rintro h72 v73 ⟨h72I, h72E, ⟨h72A, h72R⟩, rfl⟩
              refine ⟨_, rfl, ?_⟩
              have h72F := h66F.tr (h72E.wk (W' := [125, 146, 147]) (by first | rfl | simp))
              show pw X d h72 248 43 [some (.ref 141), some (pw_i dp), some (pw_i x63)] [] _
              have R74 : pw_R 1 0 2 h h72 := R67.tr (h72R : pw_R 0 0 1 h66 h72) (by decide) (by decide) (by decide)
              have hA75 : pw_g h72 125 7 ≤ n ∧ 0 ≤ pw_g h72 125 8 ∧ 0 ≤ pw_g h72 125 7 ∧ 0 ≤ pw_g h72 125 32 := h72A.2.2
              have hA76 : pw_g h 125 7 - pw_g h 125 32 + 1 ≤ pw_g h72 125 7 - pw_g h72 125 32 := R74.1.2.2.2.1
              have hA77 : pw_g h66 125 7 ≤ pw_g h72 125 7 := h72R.1.2.1
              have hA77z : pw_g h72 125 8 = 0 → pw_g h66 125 8 = 0 := h72R.1.1
              refine pw_ld E (pc' := 44) (st' := [.ref 141]) rfl (fun _ => rfl) ?_
              refine pw_ld E (pc' := 45) (st' := [pw_i x63, .ref 141]) rfl (fun _ => rfl) ?_
              refine pw_if E (pc' := 53) rfl (by decide) (by omega) (by omega) ?_ ?_
              · intro hc78
                change x63 = (0 : Int) at hc78
                refine pw_bip E (pc' := 55) rfl rfl (by decide) ?_
                refine pw_ld E (pc' := 56) (st' := [pw_i 0, pw_i 10, .ref 141]) rfl (fun _ => rfl) ?_
                obtain ⟨f79l, f79h, -⟩ := pw_obj (c := 125) h72I rfl
                refine pw_call (m' := 255) (As := [.ref 141, pw_i 10, pw_i 0]) (rest := []) (ls'' := [some (.ref 141), some (pw_i 10), some (pw_i 0)]) (by omega) E rfl (fun _ => pw_iV rfl rfl rfl rfl (pw_cellI f79h rfl)) (rfl : pm_ent 255 = some (3, 3, 12, 4, pmc_255)) rfl rfl (cm_255 (by omega) h72I h72A (by omega) (10) (by omega) (by omega) (0) (by omega) (by omega)) ?_
                rintro h80 v81 ⟨h80I, h80E, ⟨h808, h807, h80c, h80o, h80g, h80u⟩, rfl⟩
                refine ⟨_, rfl, ?_⟩
                have h80F := h72F.tr (h80E.wk (W' := [125, 146, 147]) (by first | rfl | simp))
                show pw X d h80 248 59 [some (.ref 141), some (pw_i dp), some (pw_i x63)] [] _
                have h80A : pw_A n h80 := ⟨hn1, by rw [pw_Eg (c := 127) h72I h80E rfl rfl]; exact h72A.2.1, by omega, by omega, by omega, by omega⟩
                have h80R : pw_R (-1) 2 (-1) h72 h80 := pw_R.emit (c := 10) (Or.inr (Or.inr ⟨rfl, rfl, by decide⟩)) (by omega) (by omega) h808 h807 h80c h80o h80u
                have R82 : pw_R 0 0 1 h h80 := R74.tr (h80R : pw_R (-1) 2 (-1) h72 h80) (by decide) (by decide) (by decide)
                have hA83 : pw_g h80 125 7 ≤ n ∧ 0 ≤ pw_g h80 125 8 ∧ 0 ≤ pw_g h80 125 7 ∧ 0 ≤ pw_g h80 125 32 := h80A.2.2
                have hA84 : pw_g h 125 7 - pw_g h 125 32 + 0 ≤ pw_g h80 125 7 - pw_g h80 125 32 := R82.1.2.2.2.1
                have hA85 : pw_g h72 125 7 ≤ pw_g h80 125 7 := h80R.1.2.1
                have hA85z : pw_g h80 125 8 = 0 → pw_g h72 125 8 = 0 := h80R.1.1
                refine pw_goto E (pc' := 5) rfl (by decide) ?_
                exact ih5 _ (by omega) (some (pw_i x63)) h80 h80I h80F h80A (R82.wk (by decide))   rfl
              · intro hc86
                change ¬ (x63 = (0 : Int)) at hc86
                refine pw_bip E (pc' := 50) rfl rfl (by decide) ?_
                refine pw_goto E (pc' := 55) rfl (by decide) ?_
                refine pw_ld E (pc' := 56) (st' := [pw_i 0, pw_i 9, .ref 141]) rfl (fun _ => rfl) ?_
                obtain ⟨f87l, f87h, -⟩ := pw_obj (c := 125) h72I rfl
                refine pw_call (m' := 255) (As := [.ref 141, pw_i 9, pw_i 0]) (rest := []) (ls'' := [some (.ref 141), some (pw_i 9), some (pw_i 0)]) (by omega) E rfl (fun _ => pw_iV rfl rfl rfl rfl (pw_cellI f87h rfl)) (rfl : pm_ent 255 = some (3, 3, 12, 4, pmc_255)) rfl rfl (cm_255 (by omega) h72I h72A (by omega) (9) (by omega) (by omega) (0) (by omega) (by omega)) ?_
                rintro h88 v89 ⟨h88I, h88E, ⟨h888, h887, h88c, h88o, h88g, h88u⟩, rfl⟩
                refine ⟨_, rfl, ?_⟩
                have h88F := h72F.tr (h88E.wk (W' := [125, 146, 147]) (by first | rfl | simp))
                show pw X d h88 248 59 [some (.ref 141), some (pw_i dp), some (pw_i x63)] [] _
                have h88A : pw_A n h88 := ⟨hn1, by rw [pw_Eg (c := 127) h72I h88E rfl rfl]; exact h72A.2.1, by omega, by omega, by omega, by omega⟩
                have h88R : pw_R (-1) 2 (-1) h72 h88 := pw_R.emit (c := 9) (Or.inr (Or.inr ⟨rfl, rfl, by decide⟩)) (by omega) (by omega) h888 h887 h88c h88o h88u
                have R90 : pw_R 0 0 1 h h88 := R74.tr (h88R : pw_R (-1) 2 (-1) h72 h88) (by decide) (by decide) (by decide)
                have hA91 : pw_g h88 125 7 ≤ n ∧ 0 ≤ pw_g h88 125 8 ∧ 0 ≤ pw_g h88 125 7 ∧ 0 ≤ pw_g h88 125 32 := h88A.2.2
                have hA92 : pw_g h 125 7 - pw_g h 125 32 + 0 ≤ pw_g h88 125 7 - pw_g h88 125 32 := R90.1.2.2.2.1
                have hA93 : pw_g h72 125 7 ≤ pw_g h88 125 7 := h88R.1.2.1
                have hA93z : pw_g h88 125 8 = 0 → pw_g h72 125 8 = 0 := h88R.1.1
                refine pw_goto E (pc' := 5) rfl (by decide) ?_
                exact ih5 _ (by omega) (some (pw_i x63)) h88 h88I h88F h88A (R90.wk (by decide))   rfl
          · skip
            refine pw_if E (pc' := 62) rfl (by decide) (by omega) (by omega) ?_ ?_
            · intro hc95
              change x56 = (0 : Int) at hc95
              refine pw_vret E rfl ?_
              exact ⟨I5, E5, ⟨A5, R5.wk (by decide)⟩, rfl⟩
            · intro hc96
              change ¬ (x56 = (0 : Int)) at hc96
              exfalso; omega
  exact L5 _ (none) h3 h3I h3F h3A R5   rfl
theorem pw_C_all {X : List (Nat × List Value)} : ∀ k : Nat, k ≤ 5 → pw_C252 X (5 - (k : Int)) ∧ pw_C248 X (5 - (k : Int)) := by
  intro k
  induction k with
  | zero =>
    intro _
    have c2 : pw_C252 X (5 - ((0 : Nat) : Int)) := fun hd I A hs => cm_252 _ (by omega) (by omega) (fun q => by omega) hd I A hs
    have c3 : pw_C251 X (5 - ((0 : Nat) : Int)) := fun hd I A hs => cm_251 _ (by omega) (by omega) c2 hd I A hs
    have c4 : pw_C250 X (5 - ((0 : Nat) : Int)) := fun hd I A hs => cm_250 _ (by omega) (by omega) c3 hd I A hs
    have c5 : pw_C249 X (5 - ((0 : Nat) : Int)) := fun hd I A hs => cm_249 _ (by omega) (by omega) c4 hd I A hs
    exact ⟨c2, fun hd I A hs => cm_248 _ (by omega) (by omega) c5 hd I A hs⟩
  | succ k ih =>
    intro hk
    have e : (5 - ((k + 1 : Nat) : Int)) + 1 = 5 - (k : Int) := by omega
    have c2 : pw_C252 X (5 - ((k + 1 : Nat) : Int)) := fun hd I A hs => cm_252 _ (by omega) (by omega) (fun _ => by rw [e]; exact ih (by omega)) hd I A hs
    have c3 : pw_C251 X (5 - ((k + 1 : Nat) : Int)) := fun hd I A hs => cm_251 _ (by omega) (by omega) c2 hd I A hs
    have c4 : pw_C250 X (5 - ((k + 1 : Nat) : Int)) := fun hd I A hs => cm_250 _ (by omega) (by omega) c3 hd I A hs
    have c5 : pw_C249 X (5 - ((k + 1 : Nat) : Int)) := fun hd I A hs => cm_249 _ (by omega) (by omega) c4 hd I A hs
    exact ⟨c2, fun hd I A hs => cm_248 _ (by omega) (by omega) c5 hd I A hs⟩
theorem pw_C248_all {X : List (Nat × List Value)} : pw_C248 X 0 := (pw_C_all 5 (by omega)).2
