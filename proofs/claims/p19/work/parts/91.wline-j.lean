section
/-! the model (printed by wip/tool/mall.py) -/
set_option maxHeartbeats 4000000 in
theorem cm_279 {X : List (Nat × List Value)} {d : Nat} {h : pm_H} (hd : 33 ≤ d) (I : pw_I h) {n : Nat} (A : pw_A n h) (hs : pw_g h 125 32 ≤ pw_g h 125 7) (hV : pw_NV n h) (hL : pw_g h 125 8 = 0 → pw_Lw h)  : pw X d h 279 0 [some (.ref 141), none, none] [] (fun h' v => pw_I h' ∧ pw_E [125, 146, 147, 161] h h' ∧ (pw_A n h' ∧ pw_Q 0 h h' ∧ (pw_g h' 125 8 = 0 → pw_Lw h' ∧ pw_g h 125 7 < pw_g h' 125 7)) ∧ (v = .inl none)) := by
  have E : pm_ent 279 = some (1, 3, 12, 4, pmc_279) := rfl
  have E0 : pw_E [125, 146, 147, 161] h h := pw_E.rf _ _
  have R0 : pw_R 0 0 0 h h := pw_R.rf A.2.2.2.2.2
  have hn1 : n ≤ 1000 := A.1
  have hA1 : pw_g h 125 7 ≤ n ∧ 0 ≤ pw_g h 125 8 ∧ 0 ≤ pw_g h 125 7 ∧ 0 ≤ pw_g h 125 32 := A.2.2
  refine pw_ld E (pc' := 1) (st' := [pw_i ((-1))]) rfl (fun _ => rfl) ?_
  refine pw_istn E (pc' := 2) (ls' := [some (.ref 141), some (pw_i ((-1))), none]) rfl rfl rfl rfl ?_
  refine pw_ld E (pc' := 3) (st' := [pw_i 0]) rfl (fun _ => rfl) ?_
  refine pw_istn E (pc' := 4) (ls' := [some (.ref 141), some (pw_i ((-1))), some (pw_i 0)]) rfl rfl rfl rfl ?_
  have L4 : ∀ (n4 : Nat) (k4_1 : Int) (k4_2 : Int), (-1) ≤ k4_1 → k4_1 ≤ 3 → 0 ≤ k4_2 → k4_2 ≤ 4 → k4_1 < 0 ∨ (pw_g h 125 8 = 0 ∧ pw_g h 127 (pw_g h 125 7).toNat = 1) → (4 - k4_2).toNat = n4 → pw X d h 279 4 [some (.ref 141), some (pw_i k4_1), some (pw_i k4_2)] [] (fun h' v => pw_I h' ∧ pw_E [125, 146, 147, 161] h h' ∧ (pw_A n h' ∧ pw_Q 0 h h' ∧ (pw_g h' 125 8 = 0 → pw_Lw h' ∧ pw_g h 125 7 < pw_g h' 125 7)) ∧ (v = .inl none)) := by
    intro n4
    induction n4 using Nat.strongRecOn with
    | ind n4 ih4 =>
      intro k4_1 k4_2 k4_1a k4_1b k4_2a k4_2b hx4_0 hm4
      refine pw_ld E (pc' := 5) (st' := [pw_i k4_2]) rfl (fun _ => rfl) ?_
      refine pw_ld E (pc' := 6) (st' := [pw_i 4, pw_i k4_2]) rfl (fun _ => rfl) ?_
      refine pw_if2 E (pc' := 32) rfl (by decide) (by omega) (by omega) (by decide) (by decide) ?_ ?_
      · intro hc2
        change (4 : Int) ≤ k4_2 at hc2
        refine pw_ld E (pc' := 33) (st' := [pw_i k4_1]) rfl (fun _ => rfl) ?_
        refine pw_if E (pc' := 44) rfl (by decide) (by omega) (by omega) ?_ ?_
        · intro hc3
          change (0 : Int) ≤ k4_1 at hc3
          refine pw_ld E (pc' := 45) (st' := [.ref 141]) rfl (fun _ => rfl) ?_
          refine pw_getR (b := 177) I E (c := 125) (k := 50) (pc' := 48) rfl rfl rfl rfl rfl rfl rfl ?_
          refine pw_ld E (pc' := 49) (st' := [pw_i k4_1, .ref 177]) rfl (fun _ => rfl) ?_
          refine pw_ald2 I E (c := 161) (pc' := 50) rfl rfl rfl (by decide) rfl (by decide) (by omega) (by omega) rfl (fun hf4a hf4b => ?_)
          refine pw_if E (pc' := 58) rfl (by decide) (by omega) (by omega) ?_ ?_
          · intro hc5
            change pw_g h 161 (k4_1.toNat) < (0 : Int) at hc5
            refine pw_ld E (pc' := 59) (st' := [.ref 141]) rfl (fun _ => rfl) ?_
            refine pw_getI2 I E (c := 125) (k := 8) (pc' := 62) rfl rfl rfl rfl rfl rfl (fun hf6a hf6b => ?_)
            refine pw_if E (pc' := 66) rfl (by decide) (by omega) (by omega) ?_ ?_
            · intro hc7
              change pw_g h 125 8 ≤ (0 : Int) at hc7
              refine pw_ld E (pc' := 67) (st' := [.ref 141]) rfl (fun _ => rfl) ?_
              refine pw_ld E (pc' := 68) (st' := [.ref 141, .ref 141]) rfl (fun _ => rfl) ?_
              refine pw_getI2 I E (c := 125) (k := 7) (pc' := 71) rfl rfl rfl rfl rfl rfl (fun hf8a hf8b => ?_)
              refine pw_ld E (pc' := 72) (st' := [pw_i 1, pw_i (pw_g h 125 7), .ref 141]) rfl (fun _ => rfl) ?_
              refine pw_add E (pc' := 73) rfl rfl ?_
              have hlt9 : (pw_g h 125 7) + 1 ≤ 1001 ∧ (pw_g h 125 7) + 1 ≤ n := by first | omega | (have := pw_A.lt A (by omega); omega) | (have := pw_A.lt A (by omega); omega)
              refine pw_putI I E (c := 125) (k := 7) (pc' := 76) rfl rfl rfl rfl (by omega) (by omega) (by omega) (by omega) rfl rfl ?_
              intro h10I h10E
              generalize h10w : pw_w h 125 7 (pw_i ((pw_g h 125 7) + 1)) = h10 at h10I h10E ⊢
              have h10F := E0.tr (h10E.wk (W' := [125, 146, 147, 161]) (by first | rfl | simp))
              have h107 : pw_g h10 125 7 = pw_g h 125 7 + 1 := by rw [← h10w]; exact pw_g_eq (c := 125) (k := 7) I rfl rfl (by omega) (by omega)
              have h108 : pw_g h10 125 8 = pw_g h 125 8 := by rw [← h10w]; exact pw_g_ne (by omega)
              have h109 : pw_g h10 125 32 = pw_g h 125 32 := by rw [← h10w]; exact pw_g_ne (by omega)
              have h10A : pw_A n h10 := ⟨hn1, by rw [← h10w, pw_g_ne (by omega)]; exact A.2.1, by omega, by omega, by omega, by omega⟩
              have h10R : pw_R 1 0 0 h h10 := pw_R.same (by decide) (by omega) (by omega) h107 h109 (fun j => by rw [← h10w]; exact pw_g_ne (by omega)) (fun j => by rw [← h10w]; exact pw_g_ne (by omega))
              have R11 : pw_R 1 0 0 h h10 := R0.tr (h10R : pw_R 1 0 0 h h10) (by decide) (by decide) (by decide)
              have hA12 : pw_g h10 125 7 ≤ n ∧ 0 ≤ pw_g h10 125 8 ∧ 0 ≤ pw_g h10 125 7 ∧ 0 ≤ pw_g h10 125 32 := h10A.2.2
              have hA13 : pw_g h 125 7 - pw_g h 125 32 + 1 ≤ pw_g h10 125 7 - pw_g h10 125 32 := R11.1.2.2.2.1
              have hA14 : pw_g h 125 7 ≤ pw_g h10 125 7 := h10R.1.2.1
              have hA14z : pw_g h10 125 8 = 0 → pw_g h 125 8 = 0 := h10R.1.1
              refine pw_ld E (pc' := 77) (st' := [pw_i k4_1]) rfl (fun _ => rfl) ?_
              refine pw_if E (pc' := 109) rfl (by decide) (by omega) (by omega) ?_ ?_
              · intro hc15
                change k4_1 ≠ (0 : Int) at hc15
                refine pw_ld E (pc' := 110) (st' := [.ref 141]) rfl (fun _ => rfl) ?_
                refine pw_getR (b := 143) h10I E (c := 125) (k := 4) (pc' := 113) rfl rfl rfl rfl rfl rfl rfl ?_
                refine pw_ld E (pc' := 114) (st' := [.ref 141, .ref 143]) rfl (fun _ => rfl) ?_
                refine pw_getI2 h10I E (c := 125) (k := 7) (pc' := 117) rfl rfl rfl rfl rfl rfl (fun hf16a hf16b => ?_)
                refine pw_ald2 h10I E (c := 127) (pc' := 118) rfl rfl rfl (by decide) rfl (by decide) (by omega) (by omega) rfl (fun hf17a hf17b => ?_)
                refine pw_ld E (pc' := 119) (st' := [pw_i 2, pw_i (pw_g h10 127 ((pw_g h10 125 7).toNat))]) rfl (fun _ => rfl) ?_
                refine pw_if2 E (pc' := 130) rfl (by decide) (by omega) (by omega) (by decide) (by decide) ?_ ?_
                · intro hc18
                  change pw_g h10 127 ((pw_g h10 125 7).toNat) = (2 : Int) at hc18
                  refine pw_ld E (pc' := 131) (st' := [.ref 141]) rfl (fun _ => rfl) ?_
                  refine pw_getR (b := 145) h10I E (c := 125) (k := 6) (pc' := 134) rfl rfl rfl rfl rfl rfl rfl ?_
                  refine pw_ld E (pc' := 135) (st' := [.ref 141, .ref 145]) rfl (fun _ => rfl) ?_
                  refine pw_getI2 h10I E (c := 125) (k := 7) (pc' := 138) rfl rfl rfl rfl rfl rfl (fun hf19a hf19b => ?_)
                  have hv20l := pw_A.lt h10A (by omega)
                  have hv20 : 0 ≤ pw_gm h10 129 ((pw_g h10 125 7).toNat) ∧ pw_gm h10 129 ((pw_g h10 125 7).toNat) ≤ 9999 := (pw_NV.E I h10F hV rfl) _ (by omega) (by omega)
                  refine pw_laldM h10I E (c := 129) (pc' := 139) rfl rfl rfl (by decide) (by omega) (by omega) rfl ?_
                  refine pw_ld E (pc' := 140) (st' := [pw_i k4_1, .long (Int64.ofInt (pw_gm h10 129 ((pw_g h10 125 7).toNat)))]) rfl (fun _ => rfl) ?_
                  refine pw_ld E (pc' := 141) (st' := [pw_i 3, pw_i k4_1, .long (Int64.ofInt (pw_gm h10 129 ((pw_g h10 125 7).toNat)))]) rfl (fun _ => rfl) ?_
                  refine pw_if2 E (pc' := 150) rfl (by decide) (by omega) (by omega) (by decide) (by decide) ?_ ?_
                  · intro hc21
                    change k4_1 ≠ (3 : Int) at hc21
                    refine pw_ld E (pc' := 153) (st' := [.long (Int64.ofInt 11), .long (Int64.ofInt (pw_gm h10 129 ((pw_g h10 125 7).toNat)))]) rfl (fun _ => rfl) ?_
                    refine pw_lcmpC E (pc' := 154) rfl rfl (by omega) (by omega) (by omega) (by omega) (fun c22 hc22 => ?_)
                    refine pw_if E (pc' := 165) rfl (by decide) (by omega) (by omega) ?_ ?_
                    · intro hc23
                      change c22 ≤ (0 : Int) at hc23
                      refine pw_ld E (pc' := 166) (st' := [.ref 141]) rfl (fun _ => rfl) ?_
                      refine pw_getR (b := 177) h10I E (c := 125) (k := 50) (pc' := 169) rfl rfl rfl rfl rfl rfl rfl ?_
                      refine pw_ld E (pc' := 170) (st' := [pw_i k4_1, .ref 177]) rfl (fun _ => rfl) ?_
                      refine pw_ld E (pc' := 171) (st' := [.ref 141, pw_i k4_1, .ref 177]) rfl (fun _ => rfl) ?_
                      refine pw_getR (b := 145) h10I E (c := 125) (k := 6) (pc' := 174) rfl rfl rfl rfl rfl rfl rfl ?_
                      refine pw_ld E (pc' := 175) (st' := [.ref 141, .ref 145, pw_i k4_1, .ref 177]) rfl (fun _ => rfl) ?_
                      refine pw_getI2 h10I E (c := 125) (k := 7) (pc' := 178) rfl rfl rfl rfl rfl rfl (fun hf24a hf24b => ?_)
                      have hv25l := pw_A.lt h10A (by omega)
                      have hv25 : 0 ≤ pw_gm h10 129 ((pw_g h10 125 7).toNat) ∧ pw_gm h10 129 ((pw_g h10 125 7).toNat) ≤ 9999 := (pw_NV.E I h10F hV rfl) _ (by omega) (by omega)
                      refine pw_laldM h10I E (c := 129) (pc' := 179) rfl rfl rfl (by decide) (by omega) (by omega) rfl ?_
                      refine pw_l2iC E (pc' := 180) rfl rfl ?_
                      refine pw_ast0 h10I E (c := 161) (pc' := 181) rfl rfl rfl (by decide) rfl (by decide) (by omega) (by omega) rfl (by omega) (by omega) (by omega) (by omega) rfl ?_
                      intro h26I h26E
                      generalize h26w : pw_w h10 161 (k4_1.toNat) (pw_i (pw_gm h10 129 ((pw_g h10 125 7).toNat))) = h26 at h26I h26E ⊢
                      have h26F := h10F.tr (h26E.wk (W' := [125, 146, 147, 161]) (by first | rfl | simp))
                      have h267 : pw_g h26 125 7 = pw_g h10 125 7 := by rw [← h26w]; exact pw_g_ne (by omega)
                      have h268 : pw_g h26 125 8 = pw_g h10 125 8 := by rw [← h26w]; exact pw_g_ne (by omega)
                      have h269 : pw_g h26 125 32 = pw_g h10 125 32 := by rw [← h26w]; exact pw_g_ne (by omega)
                      have h26A : pw_A n h26 := ⟨hn1, by rw [← h26w, pw_g_ne (by omega)]; exact h10A.2.1, by omega, by omega, by omega, by omega⟩
                      have h26R : pw_R 0 0 0 h10 h26 := pw_R.same (by decide) (by omega) (by omega) (by omega) h269 (fun j => by rw [← h26w]; exact pw_g_ne (by omega)) (fun j => by rw [← h26w]; exact pw_g_ne (by omega))
                      have R27 : pw_R 1 0 0 h h26 := R11.tr (h26R : pw_R 0 0 0 h10 h26) (by decide) (by decide) (by decide)
                      have hA28 : pw_g h26 125 7 ≤ n ∧ 0 ≤ pw_g h26 125 8 ∧ 0 ≤ pw_g h26 125 7 ∧ 0 ≤ pw_g h26 125 32 := h26A.2.2
                      have hA29 : pw_g h 125 7 - pw_g h 125 32 + 1 ≤ pw_g h26 125 7 - pw_g h26 125 32 := R27.1.2.2.2.1
                      have hA30 : pw_g h10 125 7 ≤ pw_g h26 125 7 := h26R.1.2.1
                      have hA30z : pw_g h26 125 8 = 0 → pw_g h10 125 8 = 0 := h26R.1.1
                      refine pw_ld E (pc' := 182) (st' := [.ref 141]) rfl (fun _ => rfl) ?_
                      refine pw_ld E (pc' := 183) (st' := [.ref 141, .ref 141]) rfl (fun _ => rfl) ?_
                      have he32 : pw_g h26 125 7 = pw_g h10 125 7 := by rw [← h26w]; exact pw_g_ne (by omega)
                      refine pw_getI2 h26I E (c := 125) (k := 7) (pc' := 186) rfl rfl rfl rfl rfl rfl (fun hf31a hf31b => ?_)
                      refine pw_ld E (pc' := 187) (st' := [pw_i 1, pw_i (pw_g h26 125 7), .ref 141]) rfl (fun _ => rfl) ?_
                      refine pw_add E (pc' := 188) rfl rfl ?_
                      have hlt33 : (pw_g h26 125 7) + 1 ≤ 1001 ∧ (pw_g h26 125 7) + 1 ≤ n := by first | omega | (have := pw_A.lt h26A (by omega); omega) | (have := pw_A.lt A (by omega); omega)
                      refine pw_putI h26I E (c := 125) (k := 7) (pc' := 191) rfl rfl rfl rfl (by omega) (by omega) (by omega) (by omega) rfl rfl ?_
                      intro h34I h34E
                      generalize h34w : pw_w h26 125 7 (pw_i ((pw_g h26 125 7) + 1)) = h34 at h34I h34E ⊢
                      have h34F := h26F.tr (h34E.wk (W' := [125, 146, 147, 161]) (by first | rfl | simp))
                      have h347 : pw_g h34 125 7 = pw_g h26 125 7 + 1 := by rw [← h34w]; exact pw_g_eq (c := 125) (k := 7) h26I rfl rfl (by omega) (by omega)
                      have h348 : pw_g h34 125 8 = pw_g h26 125 8 := by rw [← h34w]; exact pw_g_ne (by omega)
                      have h349 : pw_g h34 125 32 = pw_g h26 125 32 := by rw [← h34w]; exact pw_g_ne (by omega)
                      have h34A : pw_A n h34 := ⟨hn1, by rw [← h34w, pw_g_ne (by omega)]; exact h26A.2.1, by omega, by omega, by omega, by omega⟩
                      have h34R : pw_R 1 0 0 h26 h34 := pw_R.same (by decide) (by omega) (by omega) h347 h349 (fun j => by rw [← h34w]; exact pw_g_ne (by omega)) (fun j => by rw [← h34w]; exact pw_g_ne (by omega))
                      have R35 : pw_R 2 0 0 h h34 := R27.tr (h34R : pw_R 1 0 0 h26 h34) (by decide) (by decide) (by decide)
                      have hA36 : pw_g h34 125 7 ≤ n ∧ 0 ≤ pw_g h34 125 8 ∧ 0 ≤ pw_g h34 125 7 ∧ 0 ≤ pw_g h34 125 32 := h34A.2.2
                      have hA37 : pw_g h 125 7 - pw_g h 125 32 + 2 ≤ pw_g h34 125 7 - pw_g h34 125 32 := R35.1.2.2.2.1
                      have hA38 : pw_g h26 125 7 ≤ pw_g h34 125 7 := h34R.1.2.1
                      have hA38z : pw_g h34 125 8 = 0 → pw_g h26 125 8 = 0 := h34R.1.1
                      refine pw_ld E (pc' := 192) (st' := [.ref 141]) rfl (fun _ => rfl) ?_
                      refine pw_bip E (pc' := 194) rfl rfl (by decide) ?_
                      obtain ⟨f39l, f39h, -⟩ := pw_obj (c := 125) h34I rfl
                      refine pw_call (m' := 257) (As := [.ref 141, pw_i 59]) (rest := []) (ls'' := [some (.ref 141), some (pw_i 59)]) (Nat.le_trans (by decide) hd) E rfl (fun _ => pw_iV rfl rfl rfl rfl (pw_cellI f39h rfl)) (rfl : pm_ent 257 = some (2, 2, 12, 4, pmc_257)) rfl rfl (cm_257 (pw_dp hd (by decide)) h34I h34A (59) (by omega) (by omega)) ?_
                      rintro h40 v41 ⟨h40I, h40E, ⟨h40A, h40R⟩, rfl⟩
                      refine ⟨_, rfl, ?_⟩
                      have h40F := h34F.tr (h40E.wk (W' := [125, 146, 147, 161]) (by first | rfl | simp))
                      show pw X d h40 279 197 [some (.ref 141), some (pw_i k4_1), some (pw_i k4_2)] [] _
                      have R42 : pw_R 2 0 0 h h40 := R35.tr (h40R : pw_R 0 0 0 h34 h40) (by decide) (by decide) (by decide)
                      have hA43 : pw_g h40 125 7 ≤ n ∧ 0 ≤ pw_g h40 125 8 ∧ 0 ≤ pw_g h40 125 7 ∧ 0 ≤ pw_g h40 125 32 := h40A.2.2
                      have hA44 : pw_g h 125 7 - pw_g h 125 32 + 2 ≤ pw_g h40 125 7 - pw_g h40 125 32 := R42.1.2.2.2.1
                      have hA45 : pw_g h34 125 7 ≤ pw_g h40 125 7 := h40R.1.2.1
                      have hA45z : pw_g h40 125 8 = 0 → pw_g h34 125 8 = 0 := h40R.1.1
                      refine pw_vret E rfl ?_
                      have hl46 : ∀ j : Nat, pw_g h40 161 j = pw_g h26 161 j := fun j => ((pw_Eg (c := 161) h34I h40E rfl rfl j : pw_g h40 161 j = pw_g h34 161 j)).trans (by rw [← h34w]; exact pw_g_ne (by omega) : pw_g h34 161 j = pw_g h26 161 j)
                      have hl47 : ∀ j : Nat, pw_g h10 161 j = pw_g h 161 j := fun j => (by rw [← h10w]; exact pw_g_ne (by omega) : pw_g h10 161 j = pw_g h 161 j)
                      have hw0 : pw_g h26 161 (k4_1.toNat) = pw_gm h10 129 ((pw_g h10 125 7).toNat) := by rw [← h26w]; exact pw_g_eqA h10I rfl (by omega) (by omega) (by omega)
                      have hw1 : ∀ j : Nat, j ≠ k4_1.toNat → pw_g h26 161 j = pw_g h10 161 j := fun j hj => by rw [← h26w]; exact pw_g_ne (fun q => hj q.2.symm)
                      have hj : ∀ j : Nat, j ≠ k4_1.toNat → pw_g h40 161 j = pw_g h 161 j := fun j hj => (hl46 j).trans ((hw1 j hj).trans (hl47 j))
                      have hi : ∀ j : Nat, j = k4_1.toNat → pw_g h40 161 j = pw_gm h10 129 ((pw_g h10 125 7).toNat) := fun j hj => (hl46 j).trans (by rw [hj]; exact hw0)
                      have hfin : pw_g h40 125 8 = 0 → pw_Lw h40 ∧ pw_g h 125 7 < pw_g h40 125 7 := by
                        intro q
                        obtain ⟨y0, y1, y2, y3⟩ := hL (by omega)
                        refine ⟨⟨?_, ?_, ?_, ?_⟩, by omega⟩
                        · rw [hj 0 (by omega)]
                          rcases Int.lt_or_le (pw_g h 161 0) 0 with hz | hz
                          · exact Or.inl hz
                          · exact Or.inr (pw_Ln.q R42.1 hz (y0.resolve_left (by omega)))
                        · rcases (by omega : 1 = k4_1.toNat ∨ 1 ≠ k4_1.toNat) with e | e
                          · rw [hi 1 e]; omega
                          · rw [hj 1 e]; omega
                        · rcases (by omega : 2 = k4_1.toNat ∨ 2 ≠ k4_1.toNat) with e | e
                          · rw [hi 2 e]; omega
                          · rw [hj 2 e]; omega
                        · rcases (by omega : 3 = k4_1.toNat ∨ 3 ≠ k4_1.toNat) with e | e
                          · rw [hi 3 e]; omega
                          · rw [hj 3 e]; omega
                      exact ⟨h40I, h40F, ⟨h40A, (R42.wk (by decide)).1, hfin⟩, rfl⟩
                    · intro hc48
                      change ¬ (c22 ≤ (0 : Int)) at hc48
                      refine pw_ld E (pc' := 158) (st' := [.ref 141]) rfl (fun _ => rfl) ?_
                      refine pw_ld E (pc' := 159) (st' := [pw_i 4, .ref 141]) rfl (fun _ => rfl) ?_
                      obtain ⟨f49l, f49h, -⟩ := pw_obj (c := 125) h10I rfl
                      refine pw_call (m' := 245) (As := [.ref 141, pw_i 4]) (rest := []) (ls'' := [some (.ref 141), some (pw_i 4)]) (Nat.le_trans (by decide) hd) E rfl (fun _ => pw_iV rfl rfl rfl rfl (pw_cellI f49h rfl)) (rfl : pm_ent 245 = some (2, 2, 12, 4, pmc_245)) rfl rfl (cm_245 (pw_dp hd (by decide)) h10I h10A (4) (by omega) (by omega)) ?_
                      rintro h50 v51 ⟨h50I, h50E, ⟨h50A, h50R, h50z⟩, rfl⟩
                      refine ⟨_, rfl, ?_⟩
                      have h50F := h10F.tr (h50E.wk (W' := [125, 146, 147, 161]) (by first | rfl | simp))
                      show pw X d h50 279 162 [some (.ref 141), some (pw_i k4_1), some (pw_i k4_2)] [] _
                      change 1 ≤ pw_g h50 125 8 at h50z
                      have R52 : pw_R 1 0 0 h h50 := R11.tr (h50R : pw_R 0 0 0 h10 h50) (by decide) (by decide) (by decide)
                      have hA53 : pw_g h50 125 7 ≤ n ∧ 0 ≤ pw_g h50 125 8 ∧ 0 ≤ pw_g h50 125 7 ∧ 0 ≤ pw_g h50 125 32 := h50A.2.2
                      have hA54 : pw_g h 125 7 - pw_g h 125 32 + 1 ≤ pw_g h50 125 7 - pw_g h50 125 32 := R52.1.2.2.2.1
                      have hA55 : pw_g h10 125 7 ≤ pw_g h50 125 7 := h50R.1.2.1
                      have hA55z : pw_g h50 125 8 = 0 → pw_g h10 125 8 = 0 := h50R.1.1
                      refine pw_goto E (pc' := 191) rfl (by decide) ?_
                      refine pw_ld E (pc' := 192) (st' := [.ref 141]) rfl (fun _ => rfl) ?_
                      refine pw_bip E (pc' := 194) rfl rfl (by decide) ?_
                      obtain ⟨f56l, f56h, -⟩ := pw_obj (c := 125) h50I rfl
                      refine pw_call (m' := 257) (As := [.ref 141, pw_i 59]) (rest := []) (ls'' := [some (.ref 141), some (pw_i 59)]) (Nat.le_trans (by decide) hd) E rfl (fun _ => pw_iV rfl rfl rfl rfl (pw_cellI f56h rfl)) (rfl : pm_ent 257 = some (2, 2, 12, 4, pmc_257)) rfl rfl (cm_257 (pw_dp hd (by decide)) h50I h50A (59) (by omega) (by omega)) ?_
                      rintro h57 v58 ⟨h57I, h57E, ⟨h57A, h57R⟩, rfl⟩
                      refine ⟨_, rfl, ?_⟩
                      have h57F := h50F.tr (h57E.wk (W' := [125, 146, 147, 161]) (by first | rfl | simp))
                      show pw X d h57 279 197 [some (.ref 141), some (pw_i k4_1), some (pw_i k4_2)] [] _
                      have R59 : pw_R 1 0 0 h h57 := R52.tr (h57R : pw_R 0 0 0 h50 h57) (by decide) (by decide) (by decide)
                      have hA60 : pw_g h57 125 7 ≤ n ∧ 0 ≤ pw_g h57 125 8 ∧ 0 ≤ pw_g h57 125 7 ∧ 0 ≤ pw_g h57 125 32 := h57A.2.2
                      have hA61 : pw_g h 125 7 - pw_g h 125 32 + 1 ≤ pw_g h57 125 7 - pw_g h57 125 32 := R59.1.2.2.2.1
                      have hA62 : pw_g h50 125 7 ≤ pw_g h57 125 7 := h57R.1.2.1
                      have hA62z : pw_g h57 125 8 = 0 → pw_g h50 125 8 = 0 := h57R.1.1
                      refine pw_vret E rfl ?_
                      exact ⟨h57I, h57F, ⟨h57A, (R59.wk (by decide)).1, fun q => absurd q (by omega)⟩, rfl⟩
                  · intro hc63
                    change ¬ (k4_1 ≠ (3 : Int)) at hc63
                    refine pw_ld E (pc' := 147) (st' := [.long (Int64.ofInt 10), .long (Int64.ofInt (pw_gm h10 129 ((pw_g h10 125 7).toNat)))]) rfl (fun _ => rfl) ?_
                    refine pw_goto E (pc' := 153) rfl (by decide) ?_
                    refine pw_lcmpC E (pc' := 154) rfl rfl (by omega) (by omega) (by omega) (by omega) (fun c64 hc64 => ?_)
                    refine pw_if E (pc' := 165) rfl (by decide) (by omega) (by omega) ?_ ?_
                    · intro hc65
                      change c64 ≤ (0 : Int) at hc65
                      refine pw_ld E (pc' := 166) (st' := [.ref 141]) rfl (fun _ => rfl) ?_
                      refine pw_getR (b := 177) h10I E (c := 125) (k := 50) (pc' := 169) rfl rfl rfl rfl rfl rfl rfl ?_
                      refine pw_ld E (pc' := 170) (st' := [pw_i k4_1, .ref 177]) rfl (fun _ => rfl) ?_
                      refine pw_ld E (pc' := 171) (st' := [.ref 141, pw_i k4_1, .ref 177]) rfl (fun _ => rfl) ?_
                      refine pw_getR (b := 145) h10I E (c := 125) (k := 6) (pc' := 174) rfl rfl rfl rfl rfl rfl rfl ?_
                      refine pw_ld E (pc' := 175) (st' := [.ref 141, .ref 145, pw_i k4_1, .ref 177]) rfl (fun _ => rfl) ?_
                      refine pw_getI2 h10I E (c := 125) (k := 7) (pc' := 178) rfl rfl rfl rfl rfl rfl (fun hf66a hf66b => ?_)
                      have hv67l := pw_A.lt h10A (by omega)
                      have hv67 : 0 ≤ pw_gm h10 129 ((pw_g h10 125 7).toNat) ∧ pw_gm h10 129 ((pw_g h10 125 7).toNat) ≤ 9999 := (pw_NV.E I h10F hV rfl) _ (by omega) (by omega)
                      refine pw_laldM h10I E (c := 129) (pc' := 179) rfl rfl rfl (by decide) (by omega) (by omega) rfl ?_
                      refine pw_l2iC E (pc' := 180) rfl rfl ?_
                      refine pw_ast0 h10I E (c := 161) (pc' := 181) rfl rfl rfl (by decide) rfl (by decide) (by omega) (by omega) rfl (by omega) (by omega) (by omega) (by omega) rfl ?_
                      intro h68I h68E
                      generalize h68w : pw_w h10 161 (k4_1.toNat) (pw_i (pw_gm h10 129 ((pw_g h10 125 7).toNat))) = h68 at h68I h68E ⊢
                      have h68F := h10F.tr (h68E.wk (W' := [125, 146, 147, 161]) (by first | rfl | simp))
                      have h687 : pw_g h68 125 7 = pw_g h10 125 7 := by rw [← h68w]; exact pw_g_ne (by omega)
                      have h688 : pw_g h68 125 8 = pw_g h10 125 8 := by rw [← h68w]; exact pw_g_ne (by omega)
                      have h689 : pw_g h68 125 32 = pw_g h10 125 32 := by rw [← h68w]; exact pw_g_ne (by omega)
                      have h68A : pw_A n h68 := ⟨hn1, by rw [← h68w, pw_g_ne (by omega)]; exact h10A.2.1, by omega, by omega, by omega, by omega⟩
                      have h68R : pw_R 0 0 0 h10 h68 := pw_R.same (by decide) (by omega) (by omega) (by omega) h689 (fun j => by rw [← h68w]; exact pw_g_ne (by omega)) (fun j => by rw [← h68w]; exact pw_g_ne (by omega))
                      have R69 : pw_R 1 0 0 h h68 := R11.tr (h68R : pw_R 0 0 0 h10 h68) (by decide) (by decide) (by decide)
                      have hA70 : pw_g h68 125 7 ≤ n ∧ 0 ≤ pw_g h68 125 8 ∧ 0 ≤ pw_g h68 125 7 ∧ 0 ≤ pw_g h68 125 32 := h68A.2.2
                      have hA71 : pw_g h 125 7 - pw_g h 125 32 + 1 ≤ pw_g h68 125 7 - pw_g h68 125 32 := R69.1.2.2.2.1
                      have hA72 : pw_g h10 125 7 ≤ pw_g h68 125 7 := h68R.1.2.1
                      have hA72z : pw_g h68 125 8 = 0 → pw_g h10 125 8 = 0 := h68R.1.1
                      refine pw_ld E (pc' := 182) (st' := [.ref 141]) rfl (fun _ => rfl) ?_
                      refine pw_ld E (pc' := 183) (st' := [.ref 141, .ref 141]) rfl (fun _ => rfl) ?_
                      have he74 : pw_g h68 125 7 = pw_g h10 125 7 := by rw [← h68w]; exact pw_g_ne (by omega)
                      refine pw_getI2 h68I E (c := 125) (k := 7) (pc' := 186) rfl rfl rfl rfl rfl rfl (fun hf73a hf73b => ?_)
                      refine pw_ld E (pc' := 187) (st' := [pw_i 1, pw_i (pw_g h68 125 7), .ref 141]) rfl (fun _ => rfl) ?_
                      refine pw_add E (pc' := 188) rfl rfl ?_
                      have hlt75 : (pw_g h68 125 7) + 1 ≤ 1001 ∧ (pw_g h68 125 7) + 1 ≤ n := by first | omega | (have := pw_A.lt h68A (by omega); omega) | (have := pw_A.lt A (by omega); omega)
                      refine pw_putI h68I E (c := 125) (k := 7) (pc' := 191) rfl rfl rfl rfl (by omega) (by omega) (by omega) (by omega) rfl rfl ?_
                      intro h76I h76E
                      generalize h76w : pw_w h68 125 7 (pw_i ((pw_g h68 125 7) + 1)) = h76 at h76I h76E ⊢
                      have h76F := h68F.tr (h76E.wk (W' := [125, 146, 147, 161]) (by first | rfl | simp))
                      have h767 : pw_g h76 125 7 = pw_g h68 125 7 + 1 := by rw [← h76w]; exact pw_g_eq (c := 125) (k := 7) h68I rfl rfl (by omega) (by omega)
                      have h768 : pw_g h76 125 8 = pw_g h68 125 8 := by rw [← h76w]; exact pw_g_ne (by omega)
                      have h769 : pw_g h76 125 32 = pw_g h68 125 32 := by rw [← h76w]; exact pw_g_ne (by omega)
                      have h76A : pw_A n h76 := ⟨hn1, by rw [← h76w, pw_g_ne (by omega)]; exact h68A.2.1, by omega, by omega, by omega, by omega⟩
                      have h76R : pw_R 1 0 0 h68 h76 := pw_R.same (by decide) (by omega) (by omega) h767 h769 (fun j => by rw [← h76w]; exact pw_g_ne (by omega)) (fun j => by rw [← h76w]; exact pw_g_ne (by omega))
                      have R77 : pw_R 2 0 0 h h76 := R69.tr (h76R : pw_R 1 0 0 h68 h76) (by decide) (by decide) (by decide)
                      have hA78 : pw_g h76 125 7 ≤ n ∧ 0 ≤ pw_g h76 125 8 ∧ 0 ≤ pw_g h76 125 7 ∧ 0 ≤ pw_g h76 125 32 := h76A.2.2
                      have hA79 : pw_g h 125 7 - pw_g h 125 32 + 2 ≤ pw_g h76 125 7 - pw_g h76 125 32 := R77.1.2.2.2.1
                      have hA80 : pw_g h68 125 7 ≤ pw_g h76 125 7 := h76R.1.2.1
                      have hA80z : pw_g h76 125 8 = 0 → pw_g h68 125 8 = 0 := h76R.1.1
                      refine pw_ld E (pc' := 192) (st' := [.ref 141]) rfl (fun _ => rfl) ?_
                      refine pw_bip E (pc' := 194) rfl rfl (by decide) ?_
                      obtain ⟨f81l, f81h, -⟩ := pw_obj (c := 125) h76I rfl
                      refine pw_call (m' := 257) (As := [.ref 141, pw_i 59]) (rest := []) (ls'' := [some (.ref 141), some (pw_i 59)]) (Nat.le_trans (by decide) hd) E rfl (fun _ => pw_iV rfl rfl rfl rfl (pw_cellI f81h rfl)) (rfl : pm_ent 257 = some (2, 2, 12, 4, pmc_257)) rfl rfl (cm_257 (pw_dp hd (by decide)) h76I h76A (59) (by omega) (by omega)) ?_
                      rintro h82 v83 ⟨h82I, h82E, ⟨h82A, h82R⟩, rfl⟩
                      refine ⟨_, rfl, ?_⟩
                      have h82F := h76F.tr (h82E.wk (W' := [125, 146, 147, 161]) (by first | rfl | simp))
                      show pw X d h82 279 197 [some (.ref 141), some (pw_i k4_1), some (pw_i k4_2)] [] _
                      have R84 : pw_R 2 0 0 h h82 := R77.tr (h82R : pw_R 0 0 0 h76 h82) (by decide) (by decide) (by decide)
                      have hA85 : pw_g h82 125 7 ≤ n ∧ 0 ≤ pw_g h82 125 8 ∧ 0 ≤ pw_g h82 125 7 ∧ 0 ≤ pw_g h82 125 32 := h82A.2.2
                      have hA86 : pw_g h 125 7 - pw_g h 125 32 + 2 ≤ pw_g h82 125 7 - pw_g h82 125 32 := R84.1.2.2.2.1
                      have hA87 : pw_g h76 125 7 ≤ pw_g h82 125 7 := h82R.1.2.1
                      have hA87z : pw_g h82 125 8 = 0 → pw_g h76 125 8 = 0 := h82R.1.1
                      refine pw_vret E rfl ?_
                      have hl88 : ∀ j : Nat, pw_g h82 161 j = pw_g h68 161 j := fun j => ((pw_Eg (c := 161) h76I h82E rfl rfl j : pw_g h82 161 j = pw_g h76 161 j)).trans (by rw [← h76w]; exact pw_g_ne (by omega) : pw_g h76 161 j = pw_g h68 161 j)
                      have hl89 : ∀ j : Nat, pw_g h10 161 j = pw_g h 161 j := fun j => (by rw [← h10w]; exact pw_g_ne (by omega) : pw_g h10 161 j = pw_g h 161 j)
                      have hw0 : pw_g h68 161 (k4_1.toNat) = pw_gm h10 129 ((pw_g h10 125 7).toNat) := by rw [← h68w]; exact pw_g_eqA h10I rfl (by omega) (by omega) (by omega)
                      have hw1 : ∀ j : Nat, j ≠ k4_1.toNat → pw_g h68 161 j = pw_g h10 161 j := fun j hj => by rw [← h68w]; exact pw_g_ne (fun q => hj q.2.symm)
                      have hj : ∀ j : Nat, j ≠ k4_1.toNat → pw_g h82 161 j = pw_g h 161 j := fun j hj => (hl88 j).trans ((hw1 j hj).trans (hl89 j))
                      have hi : ∀ j : Nat, j = k4_1.toNat → pw_g h82 161 j = pw_gm h10 129 ((pw_g h10 125 7).toNat) := fun j hj => (hl88 j).trans (by rw [hj]; exact hw0)
                      have hfin : pw_g h82 125 8 = 0 → pw_Lw h82 ∧ pw_g h 125 7 < pw_g h82 125 7 := by
                        intro q
                        obtain ⟨y0, y1, y2, y3⟩ := hL (by omega)
                        refine ⟨⟨?_, ?_, ?_, ?_⟩, by omega⟩
                        · rw [hj 0 (by omega)]
                          rcases Int.lt_or_le (pw_g h 161 0) 0 with hz | hz
                          · exact Or.inl hz
                          · exact Or.inr (pw_Ln.q R84.1 hz (y0.resolve_left (by omega)))
                        · rcases (by omega : 1 = k4_1.toNat ∨ 1 ≠ k4_1.toNat) with e | e
                          · rw [hi 1 e]; omega
                          · rw [hj 1 e]; omega
                        · rcases (by omega : 2 = k4_1.toNat ∨ 2 ≠ k4_1.toNat) with e | e
                          · rw [hi 2 e]; omega
                          · rw [hj 2 e]; omega
                        · rcases (by omega : 3 = k4_1.toNat ∨ 3 ≠ k4_1.toNat) with e | e
                          · rw [hi 3 e]; omega
                          · rw [hj 3 e]; omega
                      exact ⟨h82I, h82F, ⟨h82A, (R84.wk (by decide)).1, hfin⟩, rfl⟩
                    · intro hc90
                      change ¬ (c64 ≤ (0 : Int)) at hc90
                      refine pw_ld E (pc' := 158) (st' := [.ref 141]) rfl (fun _ => rfl) ?_
                      refine pw_ld E (pc' := 159) (st' := [pw_i 4, .ref 141]) rfl (fun _ => rfl) ?_
                      obtain ⟨f91l, f91h, -⟩ := pw_obj (c := 125) h10I rfl
                      refine pw_call (m' := 245) (As := [.ref 141, pw_i 4]) (rest := []) (ls'' := [some (.ref 141), some (pw_i 4)]) (Nat.le_trans (by decide) hd) E rfl (fun _ => pw_iV rfl rfl rfl rfl (pw_cellI f91h rfl)) (rfl : pm_ent 245 = some (2, 2, 12, 4, pmc_245)) rfl rfl (cm_245 (pw_dp hd (by decide)) h10I h10A (4) (by omega) (by omega)) ?_
                      rintro h92 v93 ⟨h92I, h92E, ⟨h92A, h92R, h92z⟩, rfl⟩
                      refine ⟨_, rfl, ?_⟩
                      have h92F := h10F.tr (h92E.wk (W' := [125, 146, 147, 161]) (by first | rfl | simp))
                      show pw X d h92 279 162 [some (.ref 141), some (pw_i k4_1), some (pw_i k4_2)] [] _
                      change 1 ≤ pw_g h92 125 8 at h92z
                      have R94 : pw_R 1 0 0 h h92 := R11.tr (h92R : pw_R 0 0 0 h10 h92) (by decide) (by decide) (by decide)
                      have hA95 : pw_g h92 125 7 ≤ n ∧ 0 ≤ pw_g h92 125 8 ∧ 0 ≤ pw_g h92 125 7 ∧ 0 ≤ pw_g h92 125 32 := h92A.2.2
                      have hA96 : pw_g h 125 7 - pw_g h 125 32 + 1 ≤ pw_g h92 125 7 - pw_g h92 125 32 := R94.1.2.2.2.1
                      have hA97 : pw_g h10 125 7 ≤ pw_g h92 125 7 := h92R.1.2.1
                      have hA97z : pw_g h92 125 8 = 0 → pw_g h10 125 8 = 0 := h92R.1.1
                      refine pw_goto E (pc' := 191) rfl (by decide) ?_
                      refine pw_ld E (pc' := 192) (st' := [.ref 141]) rfl (fun _ => rfl) ?_
                      refine pw_bip E (pc' := 194) rfl rfl (by decide) ?_
                      obtain ⟨f98l, f98h, -⟩ := pw_obj (c := 125) h92I rfl
                      refine pw_call (m' := 257) (As := [.ref 141, pw_i 59]) (rest := []) (ls'' := [some (.ref 141), some (pw_i 59)]) (Nat.le_trans (by decide) hd) E rfl (fun _ => pw_iV rfl rfl rfl rfl (pw_cellI f98h rfl)) (rfl : pm_ent 257 = some (2, 2, 12, 4, pmc_257)) rfl rfl (cm_257 (pw_dp hd (by decide)) h92I h92A (59) (by omega) (by omega)) ?_
                      rintro h99 v100 ⟨h99I, h99E, ⟨h99A, h99R⟩, rfl⟩
                      refine ⟨_, rfl, ?_⟩
                      have h99F := h92F.tr (h99E.wk (W' := [125, 146, 147, 161]) (by first | rfl | simp))
                      show pw X d h99 279 197 [some (.ref 141), some (pw_i k4_1), some (pw_i k4_2)] [] _
                      have R101 : pw_R 1 0 0 h h99 := R94.tr (h99R : pw_R 0 0 0 h92 h99) (by decide) (by decide) (by decide)
                      have hA102 : pw_g h99 125 7 ≤ n ∧ 0 ≤ pw_g h99 125 8 ∧ 0 ≤ pw_g h99 125 7 ∧ 0 ≤ pw_g h99 125 32 := h99A.2.2
                      have hA103 : pw_g h 125 7 - pw_g h 125 32 + 1 ≤ pw_g h99 125 7 - pw_g h99 125 32 := R101.1.2.2.2.1
                      have hA104 : pw_g h92 125 7 ≤ pw_g h99 125 7 := h99R.1.2.1
                      have hA104z : pw_g h99 125 8 = 0 → pw_g h92 125 8 = 0 := h99R.1.1
                      refine pw_vret E rfl ?_
                      exact ⟨h99I, h99F, ⟨h99A, (R101.wk (by decide)).1, fun q => absurd q (by omega)⟩, rfl⟩
                · intro hc105
                  change ¬ (pw_g h10 127 ((pw_g h10 125 7).toNat) = (2 : Int)) at hc105
                  refine pw_ld E (pc' := 123) (st' := [.ref 141]) rfl (fun _ => rfl) ?_
                  refine pw_ld E (pc' := 124) (st' := [pw_i 1, .ref 141]) rfl (fun _ => rfl) ?_
                  obtain ⟨f106l, f106h, -⟩ := pw_obj (c := 125) h10I rfl
                  refine pw_call (m' := 245) (As := [.ref 141, pw_i 1]) (rest := []) (ls'' := [some (.ref 141), some (pw_i 1)]) (Nat.le_trans (by decide) hd) E rfl (fun _ => pw_iV rfl rfl rfl rfl (pw_cellI f106h rfl)) (rfl : pm_ent 245 = some (2, 2, 12, 4, pmc_245)) rfl rfl (cm_245 (pw_dp hd (by decide)) h10I h10A (1) (by omega) (by omega)) ?_
                  rintro h107 v108 ⟨h107I, h107E, ⟨h107A, h107R, h107z⟩, rfl⟩
                  refine ⟨_, rfl, ?_⟩
                  have h107F := h10F.tr (h107E.wk (W' := [125, 146, 147, 161]) (by first | rfl | simp))
                  show pw X d h107 279 127 [some (.ref 141), some (pw_i k4_1), some (pw_i k4_2)] [] _
                  change 1 ≤ pw_g h107 125 8 at h107z
                  have R109 : pw_R 1 0 0 h h107 := R11.tr (h107R : pw_R 0 0 0 h10 h107) (by decide) (by decide) (by decide)
                  have hA110 : pw_g h107 125 7 ≤ n ∧ 0 ≤ pw_g h107 125 8 ∧ 0 ≤ pw_g h107 125 7 ∧ 0 ≤ pw_g h107 125 32 := h107A.2.2
                  have hA111 : pw_g h 125 7 - pw_g h 125 32 + 1 ≤ pw_g h107 125 7 - pw_g h107 125 32 := R109.1.2.2.2.1
                  have hA112 : pw_g h10 125 7 ≤ pw_g h107 125 7 := h107R.1.2.1
                  have hA112z : pw_g h107 125 8 = 0 → pw_g h10 125 8 = 0 := h107R.1.1
                  refine pw_goto E (pc' := 191) rfl (by decide) ?_
                  refine pw_ld E (pc' := 192) (st' := [.ref 141]) rfl (fun _ => rfl) ?_
                  refine pw_bip E (pc' := 194) rfl rfl (by decide) ?_
                  obtain ⟨f113l, f113h, -⟩ := pw_obj (c := 125) h107I rfl
                  refine pw_call (m' := 257) (As := [.ref 141, pw_i 59]) (rest := []) (ls'' := [some (.ref 141), some (pw_i 59)]) (Nat.le_trans (by decide) hd) E rfl (fun _ => pw_iV rfl rfl rfl rfl (pw_cellI f113h rfl)) (rfl : pm_ent 257 = some (2, 2, 12, 4, pmc_257)) rfl rfl (cm_257 (pw_dp hd (by decide)) h107I h107A (59) (by omega) (by omega)) ?_
                  rintro h114 v115 ⟨h114I, h114E, ⟨h114A, h114R⟩, rfl⟩
                  refine ⟨_, rfl, ?_⟩
                  have h114F := h107F.tr (h114E.wk (W' := [125, 146, 147, 161]) (by first | rfl | simp))
                  show pw X d h114 279 197 [some (.ref 141), some (pw_i k4_1), some (pw_i k4_2)] [] _
                  have R116 : pw_R 1 0 0 h h114 := R109.tr (h114R : pw_R 0 0 0 h107 h114) (by decide) (by decide) (by decide)
                  have hA117 : pw_g h114 125 7 ≤ n ∧ 0 ≤ pw_g h114 125 8 ∧ 0 ≤ pw_g h114 125 7 ∧ 0 ≤ pw_g h114 125 32 := h114A.2.2
                  have hA118 : pw_g h 125 7 - pw_g h 125 32 + 1 ≤ pw_g h114 125 7 - pw_g h114 125 32 := R116.1.2.2.2.1
                  have hA119 : pw_g h107 125 7 ≤ pw_g h114 125 7 := h114R.1.2.1
                  have hA119z : pw_g h114 125 8 = 0 → pw_g h107 125 8 = 0 := h114R.1.1
                  refine pw_vret E rfl ?_
                  exact ⟨h114I, h114F, ⟨h114A, (R116.wk (by decide)).1, fun q => absurd q (by omega)⟩, rfl⟩
              · intro hc120
                change ¬ (k4_1 ≠ (0 : Int)) at hc120
                refine pw_ld E (pc' := 81) (st' := [.ref 141]) rfl (fun _ => rfl) ?_
                refine pw_ld E (pc' := 82) (st' := [pw_i 4, .ref 141]) rfl (fun _ => rfl) ?_
                obtain ⟨f121l, f121h, -⟩ := pw_obj (c := 125) h10I rfl
                refine pw_call (m' := 246) (As := [.ref 141, pw_i 4]) (rest := []) (ls'' := [some (.ref 141), some (pw_i 4)]) (Nat.le_trans (by decide) hd) E rfl (fun _ => pw_iV rfl rfl rfl rfl (pw_cellI f121h rfl)) (rfl : pm_ent 246 = some (2, 2, 12, 4, pmc_246)) rfl rfl (cm_246 (pw_dp hd (by decide)) h10I h10A (4) (by omega) (by omega)) ?_
                rintro h122 v123 ⟨h122I, h122E, ⟨h122A, h122R⟩, rfl⟩
                refine ⟨_, rfl, ?_⟩
                have h122F := h10F.tr (h122E.wk (W' := [125, 146, 147, 161]) (by first | rfl | simp))
                show pw X d h122 279 85 [some (.ref 141), some (pw_i k4_1), some (pw_i k4_2)] [] _
                have R124 : pw_R 1 0 0 h h122 := R11.tr (h122R : pw_R 0 0 0 h10 h122) (by decide) (by decide) (by decide)
                have hA125 : pw_g h122 125 7 ≤ n ∧ 0 ≤ pw_g h122 125 8 ∧ 0 ≤ pw_g h122 125 7 ∧ 0 ≤ pw_g h122 125 32 := h122A.2.2
                have hA126 : pw_g h 125 7 - pw_g h 125 32 + 1 ≤ pw_g h122 125 7 - pw_g h122 125 32 := R124.1.2.2.2.1
                have hA127 : pw_g h10 125 7 ≤ pw_g h122 125 7 := h122R.1.2.1
                have hA127z : pw_g h122 125 8 = 0 → pw_g h10 125 8 = 0 := h122R.1.1
                refine pw_ld E (pc' := 86) (st' := [.ref 141]) rfl (fun _ => rfl) ?_
                refine pw_getR (b := 177) h122I E (c := 125) (k := 50) (pc' := 89) rfl rfl rfl rfl rfl rfl rfl ?_
                refine pw_ld E (pc' := 90) (st' := [pw_i 0, .ref 177]) rfl (fun _ => rfl) ?_
                refine pw_ld E (pc' := 91) (st' := [.ref 141, pw_i 0, .ref 177]) rfl (fun _ => rfl) ?_
                refine pw_getI2 h122I E (c := 125) (k := 32) (pc' := 94) rfl rfl rfl rfl rfl rfl (fun hf128a hf128b => ?_)
                refine pw_ast0 h122I E (c := 161) (pc' := 95) rfl rfl rfl (by decide) rfl (by decide) (by omega) (by omega) rfl (by omega) (by omega) (by omega) (by omega) rfl ?_
                intro h129I h129E
                generalize h129w : pw_w h122 161 (Int.toNat 0) (pw_i (pw_g h122 125 32)) = h129 at h129I h129E ⊢
                have h129F := h122F.tr (h129E.wk (W' := [125, 146, 147, 161]) (by first | rfl | simp))
                have h1297 : pw_g h129 125 7 = pw_g h122 125 7 := by rw [← h129w]; exact pw_g_ne (by omega)
                have h1298 : pw_g h129 125 8 = pw_g h122 125 8 := by rw [← h129w]; exact pw_g_ne (by omega)
                have h1299 : pw_g h129 125 32 = pw_g h122 125 32 := by rw [← h129w]; exact pw_g_ne (by omega)
                have h129A : pw_A n h129 := ⟨hn1, by rw [← h129w, pw_g_ne (by omega)]; exact h122A.2.1, by omega, by omega, by omega, by omega⟩
                have h129R : pw_R 0 0 0 h122 h129 := pw_R.same (by decide) (by omega) (by omega) (by omega) h1299 (fun j => by rw [← h129w]; exact pw_g_ne (by omega)) (fun j => by rw [← h129w]; exact pw_g_ne (by omega))
                have R130 : pw_R 1 0 0 h h129 := R124.tr (h129R : pw_R 0 0 0 h122 h129) (by decide) (by decide) (by decide)
                have hA131 : pw_g h129 125 7 ≤ n ∧ 0 ≤ pw_g h129 125 8 ∧ 0 ≤ pw_g h129 125 7 ∧ 0 ≤ pw_g h129 125 32 := h129A.2.2
                have hA132 : pw_g h 125 7 - pw_g h 125 32 + 1 ≤ pw_g h129 125 7 - pw_g h129 125 32 := R130.1.2.2.2.1
                have hA133 : pw_g h122 125 7 ≤ pw_g h129 125 7 := h129R.1.2.1
                have hA133z : pw_g h129 125 8 = 0 → pw_g h122 125 8 = 0 := h129R.1.1
                refine pw_ld E (pc' := 96) (st' := [.ref 141]) rfl (fun _ => rfl) ?_
                refine pw_ld E (pc' := 97) (st' := [pw_i 0, .ref 141]) rfl (fun _ => rfl) ?_
                obtain ⟨f134l, f134h, -⟩ := pw_obj (c := 125) h129I rfl
                refine pw_call (m' := 248) (As := [.ref 141, pw_i 0]) (rest := []) (ls'' := [some (.ref 141), some (pw_i 0), none]) (Nat.le_trans (by decide) hd) E rfl (fun _ => pw_iV rfl rfl rfl rfl (pw_cellI f134h rfl)) (rfl : pm_ent 248 = some (2, 3, 12, 4, pmc_248)) rfl rfl (pw_C248_all (by omega) h129I h129A (by omega)) ?_
                rintro h135 v136 ⟨h135I, h135E, ⟨h135A, h135R⟩, rfl⟩
                refine ⟨_, rfl, ?_⟩
                have h135F := h129F.tr (h135E.wk (W' := [125, 146, 147, 161]) (by first | rfl | simp))
                show pw X d h135 279 100 [some (.ref 141), some (pw_i k4_1), some (pw_i k4_2)] [] _
                have R137 : pw_R 1 0 1 h h135 := R130.tr (h135R : pw_R 0 0 1 h129 h135) (by decide) (by decide) (by decide)
                have hA138 : pw_g h135 125 7 ≤ n ∧ 0 ≤ pw_g h135 125 8 ∧ 0 ≤ pw_g h135 125 7 ∧ 0 ≤ pw_g h135 125 32 := h135A.2.2
                have hA139 : pw_g h 125 7 - pw_g h 125 32 + 1 ≤ pw_g h135 125 7 - pw_g h135 125 32 := R137.1.2.2.2.1
                have hA140 : pw_g h129 125 7 ≤ pw_g h135 125 7 := h135R.1.2.1
                have hA140z : pw_g h135 125 8 = 0 → pw_g h129 125 8 = 0 := h135R.1.1
                refine pw_ld E (pc' := 101) (st' := [.ref 141]) rfl (fun _ => rfl) ?_
                refine pw_ld E (pc' := 102) (st' := [pw_i 0, .ref 141]) rfl (fun _ => rfl) ?_
                refine pw_ld E (pc' := 103) (st' := [pw_i 0, pw_i 0, .ref 141]) rfl (fun _ => rfl) ?_
                obtain ⟨f141l, f141h, -⟩ := pw_obj (c := 125) h135I rfl
                refine pw_call (m' := 255) (As := [.ref 141, pw_i 0, pw_i 0]) (rest := []) (ls'' := [some (.ref 141), some (pw_i 0), some (pw_i 0)]) (Nat.le_trans (by decide) hd) E rfl (fun _ => pw_iV rfl rfl rfl rfl (pw_cellI f141h rfl)) (rfl : pm_ent 255 = some (3, 3, 12, 4, pmc_255)) rfl rfl (cm_255 (pw_dp hd (by decide)) h135I h135A (by omega) (0) (by omega) (by omega) (0) (by omega) (by omega)) ?_
                rintro h142 v143 ⟨h142I, h142E, ⟨h1428, h1427, h142c, h142o, h142g, h142u⟩, rfl⟩
                refine ⟨_, rfl, ?_⟩
                have h142F := h135F.tr (h142E.wk (W' := [125, 146, 147, 161]) (by first | rfl | simp))
                show pw X d h142 279 106 [some (.ref 141), some (pw_i k4_1), some (pw_i k4_2)] [] _
                have h142A : pw_A n h142 := ⟨hn1, by rw [pw_Eg (c := 127) h135I h142E rfl rfl]; exact h135A.2.1, by omega, by omega, by omega, by omega⟩
                have Q144 : pw_Q 0 h h142 := R137.1.tr (pw_Q.emit (by omega) (by omega) h1428 h1427 h142c h142u) (by decide)
                have hLn : pw_g h135 125 8 = 0 → pw_Ln h142 4400 (pw_g h129 125 32) (pw_g h142 125 32) := fun hz => pw_Ln.end (by omega) (by decide) h135R hz h142c h142o h142u
                have hA145 : pw_g h 125 7 - pw_g h 125 32 + 0 ≤ pw_g h142 125 7 - pw_g h142 125 32 := Q144.2.2.2.1
                refine pw_goto E (pc' := 191) rfl (by decide) ?_
                refine pw_ld E (pc' := 192) (st' := [.ref 141]) rfl (fun _ => rfl) ?_
                refine pw_bip E (pc' := 194) rfl rfl (by decide) ?_
                obtain ⟨f146l, f146h, -⟩ := pw_obj (c := 125) h142I rfl
                refine pw_call (m' := 257) (As := [.ref 141, pw_i 59]) (rest := []) (ls'' := [some (.ref 141), some (pw_i 59)]) (Nat.le_trans (by decide) hd) E rfl (fun _ => pw_iV rfl rfl rfl rfl (pw_cellI f146h rfl)) (rfl : pm_ent 257 = some (2, 2, 12, 4, pmc_257)) rfl rfl (cm_257 (pw_dp hd (by decide)) h142I h142A (59) (by omega) (by omega)) ?_
                rintro h147 v148 ⟨h147I, h147E, ⟨h147A, h147R⟩, rfl⟩
                refine ⟨_, rfl, ?_⟩
                have h147F := h142F.tr (h147E.wk (W' := [125, 146, 147, 161]) (by first | rfl | simp))
                show pw X d h147 279 197 [some (.ref 141), some (pw_i k4_1), some (pw_i k4_2)] [] _
                have R149 : pw_Q 0 h h147 := Q144.tr (h147R.1 : pw_Q 0 h142 h147) (by decide)
                have hA150 : pw_g h147 125 7 ≤ n ∧ 0 ≤ pw_g h147 125 8 ∧ 0 ≤ pw_g h147 125 7 ∧ 0 ≤ pw_g h147 125 32 := h147A.2.2
                have hA151 : pw_g h 125 7 - pw_g h 125 32 + 0 ≤ pw_g h147 125 7 - pw_g h147 125 32 := R149.2.2.2.1
                have hA152 : pw_g h142 125 7 ≤ pw_g h147 125 7 := h147R.1.2.1
                have hA152z : pw_g h147 125 8 = 0 → pw_g h142 125 8 = 0 := h147R.1.1
                refine pw_vret E rfl ?_
                have hl153 : ∀ j : Nat, pw_g h147 161 j = pw_g h129 161 j := fun j => (((pw_Eg (c := 161) h142I h147E rfl rfl j : pw_g h147 161 j = pw_g h142 161 j)).trans (pw_Eg (c := 161) h135I h142E rfl rfl j : pw_g h142 161 j = pw_g h135 161 j)).trans (pw_Eg (c := 161) h129I h135E rfl rfl j : pw_g h135 161 j = pw_g h129 161 j)
                have hl154 : ∀ j : Nat, pw_g h122 161 j = pw_g h 161 j := fun j => ((pw_Eg (c := 161) h10I h122E rfl rfl j : pw_g h122 161 j = pw_g h10 161 j)).trans (by rw [← h10w]; exact pw_g_ne (by omega) : pw_g h10 161 j = pw_g h 161 j)
                have hw0 : pw_g h129 161 (Int.toNat 0) = pw_g h122 125 32 := by rw [← h129w]; exact pw_g_eqA h122I rfl (by omega) (by omega) (by omega)
                have hw1 : ∀ j : Nat, j ≠ Int.toNat 0 → pw_g h129 161 j = pw_g h122 161 j := fun j hj => by rw [← h129w]; exact pw_g_ne (fun q => hj q.2.symm)
                have hj : ∀ j : Nat, j ≠ 0 → pw_g h147 161 j = pw_g h 161 j := fun j hj => (hl153 j).trans ((hw1 j hj).trans (hl154 j))
                have hfin : pw_g h147 125 8 = 0 → pw_Lw h147 ∧ pw_g h 125 7 < pw_g h147 125 7 := by
                  intro q
                  obtain ⟨y0, y1, y2, y3⟩ := hL (by omega)
                  refine ⟨⟨?_, ?_, ?_, ?_⟩, by omega⟩
                  · have hw2 : pw_g h147 161 0 = pw_g h122 125 32 := (hl153 0).trans hw0
                    have hl : pw_Ln h147 4400 (pw_g h129 125 32) (pw_g h147 125 32) := pw_Ln.q h147R.1 (by omega) (hLn (by omega))
                    rw [hw2, show pw_g h122 125 32 = pw_g h129 125 32 by omega]
                    exact Or.inr hl
                  · rw [hj 1 (by decide)]; omega
                  · rw [hj 2 (by decide)]; omega
                  · rw [hj 3 (by decide)]; omega
                exact ⟨h147I, h147F, ⟨h147A, R149.wk (by decide), hfin⟩, rfl⟩
            · intro hc155
              change ¬ (pw_g h 125 8 ≤ (0 : Int)) at hc155
              refine pw_vret E rfl ?_
              exact ⟨I, E0, ⟨A, (R0.wk (by decide)).1, fun q => absurd q (by omega)⟩, rfl⟩
          · intro hc156
            change ¬ (pw_g h 161 (k4_1.toNat) < (0 : Int)) at hc156
            refine pw_ld E (pc' := 54) (st' := [.ref 141]) rfl (fun _ => rfl) ?_
            refine pw_ld E (pc' := 55) (st' := [pw_i 3, .ref 141]) rfl (fun _ => rfl) ?_
            obtain ⟨f157l, f157h, -⟩ := pw_obj (c := 125) I rfl
            refine pw_call (m' := 245) (As := [.ref 141, pw_i 3]) (rest := []) (ls'' := [some (.ref 141), some (pw_i 3)]) (Nat.le_trans (by decide) hd) E rfl (fun _ => pw_iV rfl rfl rfl rfl (pw_cellI f157h rfl)) (rfl : pm_ent 245 = some (2, 2, 12, 4, pmc_245)) rfl rfl (cm_245 (pw_dp hd (by decide)) I A (3) (by omega) (by omega)) ?_
            rintro h158 v159 ⟨h158I, h158E, ⟨h158A, h158R, h158z⟩, rfl⟩
            refine ⟨_, rfl, ?_⟩
            have h158F := E0.tr (h158E.wk (W' := [125, 146, 147, 161]) (by first | rfl | simp))
            show pw X d h158 279 58 [some (.ref 141), some (pw_i k4_1), some (pw_i k4_2)] [] _
            change 1 ≤ pw_g h158 125 8 at h158z
            have R160 : pw_R 0 0 0 h h158 := R0.tr (h158R : pw_R 0 0 0 h h158) (by decide) (by decide) (by decide)
            have hA161 : pw_g h158 125 7 ≤ n ∧ 0 ≤ pw_g h158 125 8 ∧ 0 ≤ pw_g h158 125 7 ∧ 0 ≤ pw_g h158 125 32 := h158A.2.2
            have hA162 : pw_g h 125 7 - pw_g h 125 32 + 0 ≤ pw_g h158 125 7 - pw_g h158 125 32 := R160.1.2.2.2.1
            have hA163 : pw_g h 125 7 ≤ pw_g h158 125 7 := h158R.1.2.1
            have hA163z : pw_g h158 125 8 = 0 → pw_g h 125 8 = 0 := h158R.1.1
            refine pw_ld E (pc' := 59) (st' := [.ref 141]) rfl (fun _ => rfl) ?_
            refine pw_getI2 h158I E (c := 125) (k := 8) (pc' := 62) rfl rfl rfl rfl rfl rfl (fun hf164a hf164b => ?_)
            refine pw_if E (pc' := 66) rfl (by decide) (by omega) (by omega) ?_ ?_
            · intro hc165
              change pw_g h158 125 8 ≤ (0 : Int) at hc165
              exfalso; omega
            · intro hc166
              change ¬ (pw_g h158 125 8 ≤ (0 : Int)) at hc166
              refine pw_vret E rfl ?_
              exact ⟨h158I, h158F, ⟨h158A, (R160.wk (by decide)).1, fun q => absurd q (by omega)⟩, rfl⟩
        · intro hc167
          change ¬ ((0 : Int) ≤ k4_1) at hc167
          refine pw_ld E (pc' := 37) (st' := [.ref 141]) rfl (fun _ => rfl) ?_
          refine pw_ld E (pc' := 38) (st' := [pw_i 1, .ref 141]) rfl (fun _ => rfl) ?_
          obtain ⟨f168l, f168h, -⟩ := pw_obj (c := 125) I rfl
          refine pw_call (m' := 245) (As := [.ref 141, pw_i 1]) (rest := []) (ls'' := [some (.ref 141), some (pw_i 1)]) (Nat.le_trans (by decide) hd) E rfl (fun _ => pw_iV rfl rfl rfl rfl (pw_cellI f168h rfl)) (rfl : pm_ent 245 = some (2, 2, 12, 4, pmc_245)) rfl rfl (cm_245 (pw_dp hd (by decide)) I A (1) (by omega) (by omega)) ?_
          rintro h169 v170 ⟨h169I, h169E, ⟨h169A, h169R, h169z⟩, rfl⟩
          refine ⟨_, rfl, ?_⟩
          have h169F := E0.tr (h169E.wk (W' := [125, 146, 147, 161]) (by first | rfl | simp))
          show pw X d h169 279 41 [some (.ref 141), some (pw_i k4_1), some (pw_i k4_2)] [] _
          change 1 ≤ pw_g h169 125 8 at h169z
          have R171 : pw_R 0 0 0 h h169 := R0.tr (h169R : pw_R 0 0 0 h h169) (by decide) (by decide) (by decide)
          have hA172 : pw_g h169 125 7 ≤ n ∧ 0 ≤ pw_g h169 125 8 ∧ 0 ≤ pw_g h169 125 7 ∧ 0 ≤ pw_g h169 125 32 := h169A.2.2
          have hA173 : pw_g h 125 7 - pw_g h 125 32 + 0 ≤ pw_g h169 125 7 - pw_g h169 125 32 := R171.1.2.2.2.1
          have hA174 : pw_g h 125 7 ≤ pw_g h169 125 7 := h169R.1.2.1
          have hA174z : pw_g h169 125 8 = 0 → pw_g h 125 8 = 0 := h169R.1.1
          refine pw_goto E (pc' := 58) rfl (by decide) ?_
          refine pw_ld E (pc' := 59) (st' := [.ref 141]) rfl (fun _ => rfl) ?_
          refine pw_getI2 h169I E (c := 125) (k := 8) (pc' := 62) rfl rfl rfl rfl rfl rfl (fun hf175a hf175b => ?_)
          refine pw_if E (pc' := 66) rfl (by decide) (by omega) (by omega) ?_ ?_
          · intro hc176
            change pw_g h169 125 8 ≤ (0 : Int) at hc176
            exfalso; omega
          · intro hc177
            change ¬ (pw_g h169 125 8 ≤ (0 : Int)) at hc177
            refine pw_vret E rfl ?_
            exact ⟨h169I, h169F, ⟨h169A, (R171.wk (by decide)).1, fun q => absurd q (by omega)⟩, rfl⟩
      · intro hc178
        change ¬ ((4 : Int) ≤ k4_2) at hc178
        refine pw_ld E (pc' := 10) (st' := [.ref 141]) rfl (fun _ => rfl) ?_
        refine pw_bip E (pc' := 12) rfl rfl (by decide) ?_
        refine pw_ld E (pc' := 13) (st' := [pw_i k4_2, pw_i 18, .ref 141]) rfl (fun _ => rfl) ?_
        refine pw_add E (pc' := 14) rfl rfl ?_
        obtain ⟨f179l, f179h, -⟩ := pw_obj (c := 125) I rfl
        refine pw_call (m' := 244) (As := [.ref 141, pw_i (18 + k4_2)]) (rest := []) (ls'' := [some (.ref 141), some (pw_i (18 + k4_2))]) (Nat.le_trans (by decide) hd) E rfl (fun _ => pw_iV rfl rfl rfl rfl (pw_cellI f179h rfl)) (rfl : pm_ent 244 = some (2, 2, 12, 1, pmc_244)) rfl rfl (cm_244 (pw_dp hd (by decide)) I (18 + k4_2) (by omega) (by omega)) ?_
        rintro u181 v180 ⟨rfl, x182, rfl, hx182a, hx182b, hx182r⟩
        refine ⟨_, rfl, ?_⟩
        show pw X d h 279 17 [some (.ref 141), some (pw_i k4_1), some (pw_i k4_2)] [pw_i x182] _
        change x182 = pw_wd h (18 + k4_2) ∧ (x182 = 1 → pw_g h 125 8 = 0 ∧ pw_g h 127 (pw_g h 125 7).toNat = 1) at hx182r
        rcases (by omega : x182 = 1 ∨ x182 = 0) with hb183 | hb183
        · skip
          refine pw_if E (pc' := 24) rfl (by decide) (by omega) (by omega) ?_ ?_
          · intro hc184
            change x182 = (0 : Int) at hc184
            exfalso; omega
          · intro hc185
            change ¬ (x182 = (0 : Int)) at hc185
            refine pw_ld E (pc' := 21) (st' := [pw_i k4_2]) rfl (fun _ => rfl) ?_
            refine pw_goto E (pc' := 25) rfl (by decide) ?_
            refine pw_istn E (pc' := 26) (ls' := [some (.ref 141), some (pw_i k4_2), some (pw_i k4_2)]) rfl rfl rfl rfl ?_
            refine pw_inc E (pc' := 29) (ls' := [some (.ref 141), some (pw_i k4_2), some (pw_i (k4_2 + 1))]) rfl rfl rfl rfl ?_
            refine pw_goto E (pc' := 4) rfl (by decide) ?_
            exact ih4 _ (by omega) (k4_2) (k4_2 + 1)  (by omega) (by omega) (by omega) (by omega) (by omega) rfl
        · skip
          refine pw_if E (pc' := 24) rfl (by decide) (by omega) (by omega) ?_ ?_
          · intro hc187
            change x182 = (0 : Int) at hc187
            refine pw_ld E (pc' := 25) (st' := [pw_i k4_1]) rfl (fun _ => rfl) ?_
            refine pw_istn E (pc' := 26) (ls' := [some (.ref 141), some (pw_i k4_1), some (pw_i k4_2)]) rfl rfl rfl rfl ?_
            refine pw_inc E (pc' := 29) (ls' := [some (.ref 141), some (pw_i k4_1), some (pw_i (k4_2 + 1))]) rfl rfl rfl rfl ?_
            refine pw_goto E (pc' := 4) rfl (by decide) ?_
            exact ih4 _ (by omega) (k4_1) (k4_2 + 1)  (by omega) (by omega) (by omega) (by omega) (by omega) rfl
          · intro hc188
            change ¬ (x182 = (0 : Int)) at hc188
            exfalso; omega
  exact L4 _ ((-1)) (0)  (by omega) (by omega) (by omega) (by omega) (by omega) rfl
end
section
/-! the model (printed by wip/tool/mall.py) -/
set_option maxHeartbeats 4000000 in
theorem cm_277 {X : List (Nat × List Value)} {d : Nat} {h : pm_H} (hd : 34 ≤ d) (I : pw_I h) (ix : Int) (hix1 : (-2147483648) ≤ ix) (hix2 : ix ≤ 2147483647) (hp0 : pw_K h) : pw X d h 277 0 [some (.ref 141), some (pw_i ix), none] [] (fun h' v => pw_I h' ∧ pw_E [125, 127, 128, 129, 146, 147, 157, 158, 159, 160, 161, 1002] h h' ∧ (pw_K h') ∧ (∃ a : Int, v = .inl (some (pw_i a)) ∧ (-2147483648) ≤ a ∧ a ≤ 2147483647)) := by
  have E : pm_ent 277 = some (2, 3, 12, 0, pmc_277) := rfl
  have E0 : pw_E [125, 127, 128, 129, 146, 147, 157, 158, 159, 160, 161, 1002] h h := pw_E.rf _ _
  refine pw_ld E (pc' := 1) (st' := [.ref 141]) rfl (fun _ => rfl) ?_
  refine pw_ld E (pc' := 2) (st' := [pw_i 0, .ref 141]) rfl (fun _ => rfl) ?_
  refine pw_putI I E (c := 125) (k := 0) (pc' := 5) rfl rfl rfl rfl (by omega) (by omega) (by omega) (by omega) rfl rfl ?_
  intro h1I h1E
  generalize h1w : pw_w h 125 0 (pw_i 0) = h1 at h1I h1E ⊢
  have h1F := E0.tr (h1E.wk (W' := [125, 127, 128, 129, 146, 147, 157, 158, 159, 160, 161, 1002]) (by first | rfl | simp))
  refine pw_ld E (pc' := 6) (st' := [pw_i ix]) rfl (fun _ => rfl) ?_
  refine pw_call (m' := 278) (As := [pw_i ix]) (rest := []) (ls'' := [some (pw_i ix)]) (Nat.le_trans (by decide) hd) E rfl (fun _ => pw_iS rfl rfl rfl) (rfl : pm_ent 278 = some (1, 1, 12, 1, pmc_278)) rfl rfl (cm_278 (pw_dp hd (by decide)) h1I (ix) (by omega) (by omega)) ?_
  rintro u3 v2 ⟨rfl, x4, rfl, hx4a, hx4b, hx4r⟩
  refine ⟨_, rfl, ?_⟩
  show pw X d h1 277 9 [some (.ref 141), some (pw_i ix), none] [pw_i x4] _
  change (x4 = 1 ∧ 0 ≤ ix ∧ ix ≤ 3) ∨ (x4 = 0 ∧ ¬ (0 ≤ ix ∧ ix ≤ 3)) at hx4r
  rcases (by omega : x4 = 1 ∨ x4 = 0) with hb5 | hb5
  · skip
    refine pw_if E (pc' := 19) rfl (by decide) (by omega) (by omega) ?_ ?_
    · intro hc6
      change x4 ≠ (0 : Int) at hc6
      refine pw_ld E (pc' := 20) (st' := [.ref 141]) rfl (fun _ => rfl) ?_
      obtain ⟨f7l, f7h, -⟩ := pw_obj (c := 125) h1I rfl
      refine pw_call (m' := 238) (As := [.ref 141]) (rest := []) (ls'' := [some (.ref 141), none, none, none, none, none, none]) (Nat.le_trans (by decide) hd) E rfl (fun _ => pw_iV rfl rfl rfl rfl (pw_cellI f7h rfl)) (rfl : pm_ent 238 = some (1, 7, 12, 4, pmc_238)) rfl rfl (cm_238 (pw_dp hd (by decide)) h1I ) ?_
      rintro h8 v9 ⟨h8I, h8E, hqcut, rfl⟩
      refine ⟨_, rfl, ?_⟩
      have h8F := h1F.tr (h8E.wk (W' := [125, 127, 128, 129, 146, 147, 157, 158, 159, 160, 161, 1002]) (by first | rfl | simp))
      show pw X d h8 277 23 [some (.ref 141), some (pw_i ix), none] [] _
      obtain ⟨n, hA0, hz7, hz8, hV0⟩ := hqcut
      refine pw_ld E (pc' := 24) (st' := [.ref 141]) rfl (fun _ => rfl) ?_
      refine pw_ld E (pc' := 25) (st' := [pw_i 0, .ref 141]) rfl (fun _ => rfl) ?_
      refine pw_putI h8I E (c := 125) (k := 32) (pc' := 28) rfl rfl rfl rfl (by omega) (by omega) (by omega) (by omega) rfl rfl ?_
      intro h10I h10E
      generalize h10w : pw_w h8 125 32 (pw_i 0) = h10 at h10I h10E ⊢
      have h10F := h8F.tr (h10E.wk (W' := [125, 127, 128, 129, 146, 147, 157, 158, 159, 160, 161, 1002]) (by first | rfl | simp))
      refine pw_ld E (pc' := 29) (st' := [.ref 141]) rfl (fun _ => rfl) ?_
      refine pw_ld E (pc' := 30) (st' := [pw_i 1, .ref 141]) rfl (fun _ => rfl) ?_
      refine pw_putZ h10I E (c := 125) (k := 45) (pc' := 33) rfl rfl rfl rfl (by omega) (by omega) (by omega) rfl rfl ?_
      intro h11I h11E
      generalize h11w : pw_w h10 125 45 (pw_i 1) = h11 at h11I h11E ⊢
      have h11F := h10F.tr (h11E.wk (W' := [125, 127, 128, 129, 146, 147, 157, 158, 159, 160, 161, 1002]) (by first | rfl | simp))
      refine pw_ld E (pc' := 34) (st' := [pw_i 0]) rfl (fun _ => rfl) ?_
      refine pw_istn E (pc' := 35) (ls' := [some (.ref 141), some (pw_i ix), some (pw_i 0)]) rfl rfl rfl rfl ?_
      refine pw_ld E (pc' := 36) (st' := [pw_i 0]) rfl (fun _ => rfl) ?_
      refine pw_ld E (pc' := 37) (st' := [pw_i 4, pw_i 0]) rfl (fun _ => rfl) ?_
      refine pw_if2 E (pc' := 53) rfl (by decide) (by decide) (by decide) (by decide) (by decide) ?_ ?_
      · intro hc12
        change (4 : Int) ≤ (0 : Int) at hc12
        exfalso; omega
      · intro hc13
        change ¬ ((4 : Int) ≤ (0 : Int)) at hc13
        refine pw_ld E (pc' := 41) (st' := [.ref 141]) rfl (fun _ => rfl) ?_
        refine pw_getR (b := 177) h11I E (c := 125) (k := 50) (pc' := 44) rfl rfl rfl rfl rfl rfl rfl ?_
        refine pw_ld E (pc' := 45) (st' := [pw_i 0, .ref 177]) rfl (fun _ => rfl) ?_
        refine pw_ld E (pc' := 46) (st' := [pw_i ((-1)), pw_i 0, .ref 177]) rfl (fun _ => rfl) ?_
        refine pw_ast0 h11I E (c := 161) (pc' := 47) rfl rfl rfl (by decide) rfl (by decide) (by omega) (by omega) rfl (by omega) (by omega) (by omega) (by omega) rfl ?_
        intro h14I h14E
        generalize h14w : pw_w h11 161 (Int.toNat 0) (pw_i ((-1))) = h14 at h14I h14E ⊢
        have h14F := h11F.tr (h14E.wk (W' := [125, 127, 128, 129, 146, 147, 157, 158, 159, 160, 161, 1002]) (by first | rfl | simp))
        refine pw_inc E (pc' := 50) (ls' := [some (.ref 141), some (pw_i ix), some (pw_i (0 + 1))]) rfl rfl rfl rfl ?_
        refine pw_goto E (pc' := 35) rfl (by decide) ?_
        refine pw_ld E (pc' := 36) (st' := [pw_i (0 + 1)]) rfl (fun _ => rfl) ?_
        refine pw_ld E (pc' := 37) (st' := [pw_i 4, pw_i (0 + 1)]) rfl (fun _ => rfl) ?_
        refine pw_if2 E (pc' := 53) rfl (by decide) (by decide) (by decide) (by decide) (by decide) ?_ ?_
        · intro hc15
          change (4 : Int) ≤ 0 + 1 at hc15
          exfalso; omega
        · intro hc16
          change ¬ ((4 : Int) ≤ 0 + 1) at hc16
          refine pw_ld E (pc' := 41) (st' := [.ref 141]) rfl (fun _ => rfl) ?_
          refine pw_getR (b := 177) h14I E (c := 125) (k := 50) (pc' := 44) rfl rfl rfl rfl rfl rfl rfl ?_
          refine pw_ld E (pc' := 45) (st' := [pw_i (0 + 1), .ref 177]) rfl (fun _ => rfl) ?_
          refine pw_ld E (pc' := 46) (st' := [pw_i ((-1)), pw_i (0 + 1), .ref 177]) rfl (fun _ => rfl) ?_
          refine pw_ast0 h14I E (c := 161) (pc' := 47) rfl rfl rfl (by decide) rfl (by decide) (by omega) (by omega) rfl (by omega) (by omega) (by omega) (by omega) rfl ?_
          intro h17I h17E
          generalize h17w : pw_w h14 161 (((0 + 1) : Int).toNat) (pw_i ((-1))) = h17 at h17I h17E ⊢
          have h17F := h14F.tr (h17E.wk (W' := [125, 127, 128, 129, 146, 147, 157, 158, 159, 160, 161, 1002]) (by first | rfl | simp))
          refine pw_inc E (pc' := 50) (ls' := [some (.ref 141), some (pw_i ix), some (pw_i ((0 + 1) + 1))]) rfl rfl rfl rfl ?_
          refine pw_goto E (pc' := 35) rfl (by decide) ?_
          refine pw_ld E (pc' := 36) (st' := [pw_i ((0 + 1) + 1)]) rfl (fun _ => rfl) ?_
          refine pw_ld E (pc' := 37) (st' := [pw_i 4, pw_i ((0 + 1) + 1)]) rfl (fun _ => rfl) ?_
          refine pw_if2 E (pc' := 53) rfl (by decide) (by decide) (by decide) (by decide) (by decide) ?_ ?_
          · intro hc18
            change (4 : Int) ≤ (0 + 1) + 1 at hc18
            exfalso; omega
          · intro hc19
            change ¬ ((4 : Int) ≤ (0 + 1) + 1) at hc19
            refine pw_ld E (pc' := 41) (st' := [.ref 141]) rfl (fun _ => rfl) ?_
            refine pw_getR (b := 177) h17I E (c := 125) (k := 50) (pc' := 44) rfl rfl rfl rfl rfl rfl rfl ?_
            refine pw_ld E (pc' := 45) (st' := [pw_i ((0 + 1) + 1), .ref 177]) rfl (fun _ => rfl) ?_
            refine pw_ld E (pc' := 46) (st' := [pw_i ((-1)), pw_i ((0 + 1) + 1), .ref 177]) rfl (fun _ => rfl) ?_
            refine pw_ast0 h17I E (c := 161) (pc' := 47) rfl rfl rfl (by decide) rfl (by decide) (by omega) (by omega) rfl (by omega) (by omega) (by omega) (by omega) rfl ?_
            intro h20I h20E
            generalize h20w : pw_w h17 161 ((((0 + 1) + 1) : Int).toNat) (pw_i ((-1))) = h20 at h20I h20E ⊢
            have h20F := h17F.tr (h20E.wk (W' := [125, 127, 128, 129, 146, 147, 157, 158, 159, 160, 161, 1002]) (by first | rfl | simp))
            refine pw_inc E (pc' := 50) (ls' := [some (.ref 141), some (pw_i ix), some (pw_i (((0 + 1) + 1) + 1))]) rfl rfl rfl rfl ?_
            refine pw_goto E (pc' := 35) rfl (by decide) ?_
            refine pw_ld E (pc' := 36) (st' := [pw_i (((0 + 1) + 1) + 1)]) rfl (fun _ => rfl) ?_
            refine pw_ld E (pc' := 37) (st' := [pw_i 4, pw_i (((0 + 1) + 1) + 1)]) rfl (fun _ => rfl) ?_
            refine pw_if2 E (pc' := 53) rfl (by decide) (by decide) (by decide) (by decide) (by decide) ?_ ?_
            · intro hc21
              change (4 : Int) ≤ ((0 + 1) + 1) + 1 at hc21
              exfalso; omega
            · intro hc22
              change ¬ ((4 : Int) ≤ ((0 + 1) + 1) + 1) at hc22
              refine pw_ld E (pc' := 41) (st' := [.ref 141]) rfl (fun _ => rfl) ?_
              refine pw_getR (b := 177) h20I E (c := 125) (k := 50) (pc' := 44) rfl rfl rfl rfl rfl rfl rfl ?_
              refine pw_ld E (pc' := 45) (st' := [pw_i (((0 + 1) + 1) + 1), .ref 177]) rfl (fun _ => rfl) ?_
              refine pw_ld E (pc' := 46) (st' := [pw_i ((-1)), pw_i (((0 + 1) + 1) + 1), .ref 177]) rfl (fun _ => rfl) ?_
              refine pw_ast0 h20I E (c := 161) (pc' := 47) rfl rfl rfl (by decide) rfl (by decide) (by omega) (by omega) rfl (by omega) (by omega) (by omega) (by omega) rfl ?_
              intro h23I h23E
              generalize h23w : pw_w h20 161 (((((0 + 1) + 1) + 1) : Int).toNat) (pw_i ((-1))) = h23 at h23I h23E ⊢
              have h23F := h20F.tr (h23E.wk (W' := [125, 127, 128, 129, 146, 147, 157, 158, 159, 160, 161, 1002]) (by first | rfl | simp))
              refine pw_inc E (pc' := 50) (ls' := [some (.ref 141), some (pw_i ix), some (pw_i ((((0 + 1) + 1) + 1) + 1))]) rfl rfl rfl rfl ?_
              refine pw_goto E (pc' := 35) rfl (by decide) ?_
              refine pw_ld E (pc' := 36) (st' := [pw_i ((((0 + 1) + 1) + 1) + 1)]) rfl (fun _ => rfl) ?_
              refine pw_ld E (pc' := 37) (st' := [pw_i 4, pw_i ((((0 + 1) + 1) + 1) + 1)]) rfl (fun _ => rfl) ?_
              refine pw_if2 E (pc' := 53) rfl (by decide) (by decide) (by decide) (by decide) (by decide) ?_ ?_
              · intro hc24
                change (4 : Int) ≤ (((0 + 1) + 1) + 1) + 1 at hc24
                have b7 : pw_g h23 125 7 = pw_g h8 125 7 := by rw [← h23w, pw_g_ne (by omega), ← h20w, pw_g_ne (by omega), ← h17w, pw_g_ne (by omega), ← h14w, pw_g_ne (by omega), ← h11w, pw_g_ne (by omega), ← h10w, pw_g_ne (by omega)]
                have b8 : pw_g h23 125 8 = pw_g h8 125 8 := by rw [← h23w, pw_g_ne (by omega), ← h20w, pw_g_ne (by omega), ← h17w, pw_g_ne (by omega), ← h14w, pw_g_ne (by omega), ← h11w, pw_g_ne (by omega), ← h10w, pw_g_ne (by omega)]
                have b9 : pw_g h23 125 32 = pw_g h10 125 32 := by rw [← h23w, pw_g_ne (by omega), ← h20w, pw_g_ne (by omega), ← h17w, pw_g_ne (by omega), ← h14w, pw_g_ne (by omega), ← h11w, pw_g_ne (by omega)]
                have bc : pw_g h10 125 32 = 0 := by rw [← h10w]; exact pw_g_eq (c := 125) (k := 32) h8I rfl rfl (by omega) (by omega)
                have hl25 : ∀ j : Nat, pw_g h23 127 j = pw_g h8 127 j := fun j => ((((((by rw [← h23w]; exact pw_g_ne (by omega) : pw_g h23 127 j = pw_g h20 127 j)).trans (by rw [← h20w]; exact pw_g_ne (by omega) : pw_g h20 127 j = pw_g h17 127 j)).trans (by rw [← h17w]; exact pw_g_ne (by omega) : pw_g h17 127 j = pw_g h14 127 j)).trans (by rw [← h14w]; exact pw_g_ne (by omega) : pw_g h14 127 j = pw_g h11 127 j)).trans (by rw [← h11w]; exact pw_g_ne (by omega) : pw_g h11 127 j = pw_g h10 127 j)).trans (by rw [← h10w]; exact pw_g_ne (by omega) : pw_g h10 127 j = pw_g h8 127 j)
                have bA : pw_A n h23 := ⟨hA0.1, by rw [hl25]; exact hA0.2.1, by omega, by omega, by omega, by omega⟩
                have bV : pw_NV n h23 := fun j hj hq => by rw [← h23w, pw_gm_ne (by omega), ← h20w, pw_gm_ne (by omega), ← h17w, pw_gm_ne (by omega), ← h14w, pw_gm_ne (by omega), ← h11w, pw_gm_ne (by omega), ← h10w, pw_gm_ne (by omega)]; exact hV0 j hj (by rw [← hl25]; exact hq)
                have bl0 : pw_g h23 161 0 = -1 := by rw [← h23w, pw_g_ne (by decide), ← h20w, pw_g_ne (by decide), ← h17w, pw_g_ne (by decide), ← h14w]; exact pw_g_eqA h11I rfl (by decide) (by decide) (by decide)
                have bl1 : pw_g h23 161 1 = -1 := by rw [← h23w, pw_g_ne (by decide), ← h20w, pw_g_ne (by decide), ← h17w]; exact pw_g_eqA h14I rfl (by decide) (by decide) (by decide)
                have bl2 : pw_g h23 161 2 = -1 := by rw [← h23w, pw_g_ne (by decide), ← h20w]; exact pw_g_eqA h17I rfl (by decide) (by decide) (by decide)
                have bl3 : pw_g h23 161 3 = -1 := by rw [← h23w]; exact pw_g_eqA h20I rfl (by decide) (by decide) (by decide)
                have bL : pw_Lw h23 := ⟨Or.inl (by omega), by omega, by omega, by omega⟩
                have hl26 : ∀ j : Nat, pw_g h23 145 j = pw_g h 145 j := fun j => ((((((((by rw [← h23w]; exact pw_g_ne (by omega) : pw_g h23 145 j = pw_g h20 145 j)).trans (by rw [← h20w]; exact pw_g_ne (by omega) : pw_g h20 145 j = pw_g h17 145 j)).trans (by rw [← h17w]; exact pw_g_ne (by omega) : pw_g h17 145 j = pw_g h14 145 j)).trans (by rw [← h14w]; exact pw_g_ne (by omega) : pw_g h14 145 j = pw_g h11 145 j)).trans (by rw [← h11w]; exact pw_g_ne (by omega) : pw_g h11 145 j = pw_g h10 145 j)).trans (by rw [← h10w]; exact pw_g_ne (by omega) : pw_g h10 145 j = pw_g h8 145 j)).trans (pw_Eg (c := 145) h1I h8E rfl rfl j : pw_g h8 145 j = pw_g h1 145 j)).trans (by rw [← h1w]; exact pw_g_ne (by omega) : pw_g h1 145 j = pw_g h 145 j)
                have hl27 : ∀ j : Nat, pw_g h23 146 j = pw_g h 146 j := fun j => ((((((((by rw [← h23w]; exact pw_g_ne (by omega) : pw_g h23 146 j = pw_g h20 146 j)).trans (by rw [← h20w]; exact pw_g_ne (by omega) : pw_g h20 146 j = pw_g h17 146 j)).trans (by rw [← h17w]; exact pw_g_ne (by omega) : pw_g h17 146 j = pw_g h14 146 j)).trans (by rw [← h14w]; exact pw_g_ne (by omega) : pw_g h14 146 j = pw_g h11 146 j)).trans (by rw [← h11w]; exact pw_g_ne (by omega) : pw_g h11 146 j = pw_g h10 146 j)).trans (by rw [← h10w]; exact pw_g_ne (by omega) : pw_g h10 146 j = pw_g h8 146 j)).trans (pw_Eg (c := 146) h1I h8E rfl rfl j : pw_g h8 146 j = pw_g h1 146 j)).trans (by rw [← h1w]; exact pw_g_ne (by omega) : pw_g h1 146 j = pw_g h 146 j)
                have hl28 : ∀ j : Nat, pw_g h23 147 j = pw_g h 147 j := fun j => ((((((((by rw [← h23w]; exact pw_g_ne (by omega) : pw_g h23 147 j = pw_g h20 147 j)).trans (by rw [← h20w]; exact pw_g_ne (by omega) : pw_g h20 147 j = pw_g h17 147 j)).trans (by rw [← h17w]; exact pw_g_ne (by omega) : pw_g h17 147 j = pw_g h14 147 j)).trans (by rw [← h14w]; exact pw_g_ne (by omega) : pw_g h14 147 j = pw_g h11 147 j)).trans (by rw [← h11w]; exact pw_g_ne (by omega) : pw_g h11 147 j = pw_g h10 147 j)).trans (by rw [← h10w]; exact pw_g_ne (by omega) : pw_g h10 147 j = pw_g h8 147 j)).trans (pw_Eg (c := 147) h1I h8E rfl rfl j : pw_g h8 147 j = pw_g h1 147 j)).trans (by rw [← h1w]; exact pw_g_ne (by omega) : pw_g h1 147 j = pw_g h 147 j)
                have hl29 : ∀ j : Nat, pw_g h23 157 j = pw_g h 157 j := fun j => ((((((((by rw [← h23w]; exact pw_g_ne (by omega) : pw_g h23 157 j = pw_g h20 157 j)).trans (by rw [← h20w]; exact pw_g_ne (by omega) : pw_g h20 157 j = pw_g h17 157 j)).trans (by rw [← h17w]; exact pw_g_ne (by omega) : pw_g h17 157 j = pw_g h14 157 j)).trans (by rw [← h14w]; exact pw_g_ne (by omega) : pw_g h14 157 j = pw_g h11 157 j)).trans (by rw [← h11w]; exact pw_g_ne (by omega) : pw_g h11 157 j = pw_g h10 157 j)).trans (by rw [← h10w]; exact pw_g_ne (by omega) : pw_g h10 157 j = pw_g h8 157 j)).trans (pw_Eg (c := 157) h1I h8E rfl rfl j : pw_g h8 157 j = pw_g h1 157 j)).trans (by rw [← h1w]; exact pw_g_ne (by omega) : pw_g h1 157 j = pw_g h 157 j)
                have bO : pw_O h h23 := ⟨fun j _ => hl26 j, fun j _ => ⟨hl27 j, hl28 j⟩, hl29⟩
                have L53 : ∀ (n53 : Nat)  (gh53 : pm_H), pw_I gh53 → pw_E [125, 127, 128, 129, 146, 147, 157, 158, 159, 160, 161, 1002] h gh53 → pw_A n gh53 → pw_g gh53 125 32 ≤ pw_g gh53 125 7 → (pw_g gh53 125 8 = 0 → pw_Lw gh53) → pw_O h gh53 → pw_NV n gh53 → ((n : Int) - pw_g gh53 125 7 + 1 - min (pw_g gh53 125 8) 1).toNat = n53 → pw X d gh53 277 53 [some (.ref 141), some (pw_i ix), some (pw_i ((((0 + 1) + 1) + 1) + 1))] [] (fun h' v => pw_I h' ∧ pw_E [125, 127, 128, 129, 146, 147, 157, 158, 159, 160, 161, 1002] h h' ∧ (pw_K h') ∧ (∃ a : Int, v = .inl (some (pw_i a)) ∧ (-2147483648) ≤ a ∧ a ≤ 2147483647)) := by
                  intro n53
                  induction n53 using Nat.strongRecOn with
                  | ind n53 ih53 =>
                    intro  gh53 I53 E53 hx53_0 hx53_1 hx53_2 hx53_3 hx53_4 hm53
                    refine pw_ld E (pc' := 54) (st' := [.ref 141]) rfl (fun _ => rfl) ?_
                    refine pw_getI2 I53 E (c := 125) (k := 8) (pc' := 57) rfl rfl rfl rfl rfl rfl (fun hf30a hf30b => ?_)
                    refine pw_if E (pc' := 79) rfl (by decide) (by omega) (by omega) ?_ ?_
                    · intro hc31
                      change pw_g gh53 125 8 ≠ (0 : Int) at hc31
                      have hA53 : pw_g gh53 125 7 ≤ n ∧ 0 ≤ pw_g gh53 125 8 ∧ 0 ≤ pw_g gh53 125 7 ∧ 0 ≤ pw_g gh53 125 32 := hx53_0.2.2
                      have hn1 : n ≤ 1000 := hx53_0.1
                      refine pw_ld E (pc' := 80) (st' := [.ref 141]) rfl (fun _ => rfl) ?_
                      refine pw_getI2 I53 E (c := 125) (k := 8) (pc' := 83) rfl rfl rfl rfl rfl rfl (fun hf32a hf32b => ?_)
                      refine pw_if E (pc' := 91) rfl (by decide) (by omega) (by omega) ?_ ?_
                      · intro hc33
                        change pw_g gh53 125 8 ≤ (0 : Int) at hc33
                        refine pw_ld E (pc' := 92) (st' := [.ref 141]) rfl (fun _ => rfl) ?_
                        refine pw_ld E (pc' := 93) (st' := [pw_i 5, .ref 141]) rfl (fun _ => rfl) ?_
                        refine pw_ld E (pc' := 94) (st' := [pw_i ix, pw_i 5, .ref 141]) rfl (fun _ => rfl) ?_
                        refine pw_add E (pc' := 95) rfl rfl ?_
                        obtain ⟨f34l, f34h, -⟩ := pw_obj (c := 125) I53 rfl
                        refine pw_call (m' := 258) (As := [.ref 141, pw_i (5 + ix)]) (rest := []) (ls'' := [some (.ref 141), some (pw_i (5 + ix)), none]) (Nat.le_trans (by decide) hd) E rfl (fun _ => pw_iV rfl rfl rfl rfl (pw_cellI f34h rfl)) (rfl : pm_ent 258 = some (2, 3, 12, 4, pmc_258)) rfl rfl (cm_258 (pw_dp hd (by decide)) I53 (5 + ix) (by omega) (by omega) (by omega) (by omega)) ?_
                        rintro h35 v36 ⟨h35I, h35E, hqkeep, rfl⟩
                        refine ⟨_, rfl, ?_⟩
                        have h35F := E53.tr (h35E.wk (W' := [125, 127, 128, 129, 146, 147, 157, 158, 159, 160, 161, 1002]) (by first | rfl | simp))
                        show pw X d h35 277 98 [some (.ref 141), some (pw_i ix), some (pw_i ((((0 + 1) + 1) + 1) + 1))] [] _
                        refine pw_ld E (pc' := 99) (st' := [.ref 141]) rfl (fun _ => rfl) ?_
                        refine pw_getR (b := 173) h35I E (c := 125) (k := 46) (pc' := 102) rfl rfl rfl rfl rfl rfl rfl ?_
                        refine pw_ld E (pc' := 103) (st' := [pw_i ix, .ref 173]) rfl (fun _ => rfl) ?_
                        refine pw_ld E (pc' := 104) (st' := [.ref 141, pw_i ix, .ref 173]) rfl (fun _ => rfl) ?_
                        refine pw_getR (b := 177) h35I E (c := 125) (k := 50) (pc' := 107) rfl rfl rfl rfl rfl rfl rfl ?_
                        refine pw_ld E (pc' := 108) (st' := [pw_i 0, .ref 177, pw_i ix, .ref 173]) rfl (fun _ => rfl) ?_
                        refine pw_ald2 h35I E (c := 161) (pc' := 109) rfl rfl rfl (by decide) rfl (by decide) (by omega) (by omega) rfl (fun hf37a hf37b => ?_)
                        refine pw_ast0 h35I E (c := 157) (pc' := 110) rfl rfl rfl (by decide) rfl (by decide) (by omega) (by omega) rfl (by omega) (by omega) (by omega) (by omega) rfl ?_
                        intro h38I h38E
                        generalize h38w : pw_w h35 157 (ix.toNat) (pw_i (pw_g h35 161 (Int.toNat 0))) = h38 at h38I h38E ⊢
                        have h38F := h35F.tr (h38E.wk (W' := [125, 127, 128, 129, 146, 147, 157, 158, 159, 160, 161, 1002]) (by first | rfl | simp))
                        have hl39 : ∀ j : Nat, pw_g h38 161 j = pw_g gh53 161 j := fun j => ((by rw [← h38w]; exact pw_g_ne (by omega) : pw_g h38 161 j = pw_g h35 161 j)).trans (pw_Eg (c := 161) I53 h35E rfl rfl j : pw_g h35 161 j = pw_g gh53 161 j)
                        have hr40 : pw_g h38 161 (Int.toNat 1) ≤ 11 := by rw [hl39]; exact (hx53_2 (by omega)).2.1
                        refine pw_ld E (pc' := 111) (st' := [.ref 141]) rfl (fun _ => rfl) ?_
                        refine pw_getR (b := 174) h38I E (c := 125) (k := 47) (pc' := 114) rfl rfl rfl rfl rfl rfl rfl ?_
                        refine pw_ld E (pc' := 115) (st' := [pw_i ix, .ref 174]) rfl (fun _ => rfl) ?_
                        refine pw_ld E (pc' := 116) (st' := [.ref 141, pw_i ix, .ref 174]) rfl (fun _ => rfl) ?_
                        refine pw_getR (b := 177) h38I E (c := 125) (k := 50) (pc' := 119) rfl rfl rfl rfl rfl rfl rfl ?_
                        refine pw_ld E (pc' := 120) (st' := [pw_i 1, .ref 177, pw_i ix, .ref 174]) rfl (fun _ => rfl) ?_
                        refine pw_ald2 h38I E (c := 161) (pc' := 121) rfl rfl rfl (by decide) rfl (by decide) (by omega) (by omega) rfl (fun hf41a hf41b => ?_)
                        refine pw_if E (pc' := 128) rfl (by decide) (by omega) (by omega) ?_ ?_
                        · intro hc42
                          change (0 : Int) ≤ pw_g h38 161 (Int.toNat 1) at hc42
                          refine pw_ld E (pc' := 129) (st' := [.ref 141, pw_i ix, .ref 174]) rfl (fun _ => rfl) ?_
                          refine pw_getR (b := 177) h38I E (c := 125) (k := 50) (pc' := 132) rfl rfl rfl rfl rfl rfl rfl ?_
                          refine pw_ld E (pc' := 133) (st' := [pw_i 1, .ref 177, pw_i ix, .ref 174]) rfl (fun _ => rfl) ?_
                          refine pw_ald2 h38I E (c := 161) (pc' := 134) rfl rfl rfl (by decide) rfl (by decide) (by omega) (by omega) rfl (fun hf43a hf43b => ?_)
                          refine pw_ast0 h38I E (c := 158) (pc' := 135) rfl rfl rfl (by decide) rfl (by decide) (by omega) (by omega) rfl (by omega) (by omega) (by omega) (by omega) rfl ?_
                          intro h44I h44E
                          generalize h44w : pw_w h38 158 (ix.toNat) (pw_i (pw_g h38 161 (Int.toNat 1))) = h44 at h44I h44E ⊢
                          have h44F := h38F.tr (h44E.wk (W' := [125, 127, 128, 129, 146, 147, 157, 158, 159, 160, 161, 1002]) (by first | rfl | simp))
                          have hl45 : ∀ j : Nat, pw_g h44 161 j = pw_g gh53 161 j := fun j => (((by rw [← h44w]; exact pw_g_ne (by omega) : pw_g h44 161 j = pw_g h38 161 j)).trans (by rw [← h38w]; exact pw_g_ne (by omega) : pw_g h38 161 j = pw_g h35 161 j)).trans (pw_Eg (c := 161) I53 h35E rfl rfl j : pw_g h35 161 j = pw_g gh53 161 j)
                          have hr46 : pw_g h44 161 (Int.toNat 2) ≤ 11 := by rw [hl45]; exact (hx53_2 (by omega)).2.2.1
                          refine pw_ld E (pc' := 136) (st' := [.ref 141]) rfl (fun _ => rfl) ?_
                          refine pw_getR (b := 175) h44I E (c := 125) (k := 48) (pc' := 139) rfl rfl rfl rfl rfl rfl rfl ?_
                          refine pw_ld E (pc' := 140) (st' := [pw_i ix, .ref 175]) rfl (fun _ => rfl) ?_
                          refine pw_ld E (pc' := 141) (st' := [.ref 141, pw_i ix, .ref 175]) rfl (fun _ => rfl) ?_
                          refine pw_getR (b := 177) h44I E (c := 125) (k := 50) (pc' := 144) rfl rfl rfl rfl rfl rfl rfl ?_
                          refine pw_ld E (pc' := 145) (st' := [pw_i 2, .ref 177, pw_i ix, .ref 175]) rfl (fun _ => rfl) ?_
                          refine pw_ald2 h44I E (c := 161) (pc' := 146) rfl rfl rfl (by decide) rfl (by decide) (by omega) (by omega) rfl (fun hf47a hf47b => ?_)
                          refine pw_if E (pc' := 154) rfl (by decide) (by omega) (by omega) ?_ ?_
                          · intro hc48
                            change (0 : Int) ≤ pw_g h44 161 (Int.toNat 2) at hc48
                            refine pw_ld E (pc' := 155) (st' := [.ref 141, pw_i ix, .ref 175]) rfl (fun _ => rfl) ?_
                            refine pw_getR (b := 177) h44I E (c := 125) (k := 50) (pc' := 158) rfl rfl rfl rfl rfl rfl rfl ?_
                            refine pw_ld E (pc' := 159) (st' := [pw_i 2, .ref 177, pw_i ix, .ref 175]) rfl (fun _ => rfl) ?_
                            refine pw_ald2 h44I E (c := 161) (pc' := 160) rfl rfl rfl (by decide) rfl (by decide) (by omega) (by omega) rfl (fun hf49a hf49b => ?_)
                            refine pw_ast0 h44I E (c := 159) (pc' := 161) rfl rfl rfl (by decide) rfl (by decide) (by omega) (by omega) rfl (by omega) (by omega) (by omega) (by omega) rfl ?_
                            intro h50I h50E
                            generalize h50w : pw_w h44 159 (ix.toNat) (pw_i (pw_g h44 161 (Int.toNat 2))) = h50 at h50I h50E ⊢
                            have h50F := h44F.tr (h50E.wk (W' := [125, 127, 128, 129, 146, 147, 157, 158, 159, 160, 161, 1002]) (by first | rfl | simp))
                            have hl51 : ∀ j : Nat, pw_g h50 161 j = pw_g gh53 161 j := fun j => ((((by rw [← h50w]; exact pw_g_ne (by omega) : pw_g h50 161 j = pw_g h44 161 j)).trans (by rw [← h44w]; exact pw_g_ne (by omega) : pw_g h44 161 j = pw_g h38 161 j)).trans (by rw [← h38w]; exact pw_g_ne (by omega) : pw_g h38 161 j = pw_g h35 161 j)).trans (pw_Eg (c := 161) I53 h35E rfl rfl j : pw_g h35 161 j = pw_g gh53 161 j)
                            have hr52 : pw_g h50 161 (Int.toNat 3) ≤ 10 := by rw [hl51]; exact (hx53_2 (by omega)).2.2.2
                            refine pw_ld E (pc' := 162) (st' := [.ref 141]) rfl (fun _ => rfl) ?_
                            refine pw_getR (b := 176) h50I E (c := 125) (k := 49) (pc' := 165) rfl rfl rfl rfl rfl rfl rfl ?_
                            refine pw_ld E (pc' := 166) (st' := [pw_i ix, .ref 176]) rfl (fun _ => rfl) ?_
                            refine pw_ld E (pc' := 167) (st' := [.ref 141, pw_i ix, .ref 176]) rfl (fun _ => rfl) ?_
                            refine pw_getR (b := 177) h50I E (c := 125) (k := 50) (pc' := 170) rfl rfl rfl rfl rfl rfl rfl ?_
                            refine pw_ld E (pc' := 171) (st' := [pw_i 3, .ref 177, pw_i ix, .ref 176]) rfl (fun _ => rfl) ?_
                            refine pw_ald2 h50I E (c := 161) (pc' := 172) rfl rfl rfl (by decide) rfl (by decide) (by omega) (by omega) rfl (fun hf53a hf53b => ?_)
                            refine pw_ast0 h50I E (c := 160) (pc' := 173) rfl rfl rfl (by decide) rfl (by decide) (by omega) (by omega) rfl (by omega) (by omega) (by omega) (by omega) rfl ?_
                            intro h54I h54E
                            generalize h54w : pw_w h50 160 (ix.toNat) (pw_i (pw_g h50 161 (Int.toNat 3))) = h54 at h54I h54E ⊢
                            have h54F := h50F.tr (h54E.wk (W' := [125, 127, 128, 129, 146, 147, 157, 158, 159, 160, 161, 1002]) (by first | rfl | simp))
                            refine pw_ld E (pc' := 174) (st' := [pw_i 0]) rfl (fun _ => rfl) ?_
                            refine pw_iret E rfl ?_
                            have hl55 : ∀ j : Nat, pw_g h35 161 j = pw_g gh53 161 j := fun j => (pw_Eg (c := 161) I53 h35E rfl rfl j : pw_g h35 161 j = pw_g gh53 161 j)
                            have hl56 : ∀ j : Nat, pw_g h54 145 j = pw_g gh53 145 j := fun j => (((((by rw [← h54w]; exact pw_g_ne (by omega) : pw_g h54 145 j = pw_g h50 145 j)).trans (by rw [← h50w]; exact pw_g_ne (by omega) : pw_g h50 145 j = pw_g h44 145 j)).trans (by rw [← h44w]; exact pw_g_ne (by omega) : pw_g h44 145 j = pw_g h38 145 j)).trans (by rw [← h38w]; exact pw_g_ne (by omega) : pw_g h38 145 j = pw_g h35 145 j)).trans (pw_Eg (c := 145) I53 h35E rfl rfl j : pw_g h35 145 j = pw_g gh53 145 j)
                            have hl57 : ∀ j : Nat, pw_g h54 146 j = pw_g h35 146 j := fun j => ((((by rw [← h54w]; exact pw_g_ne (by omega) : pw_g h54 146 j = pw_g h50 146 j)).trans (by rw [← h50w]; exact pw_g_ne (by omega) : pw_g h50 146 j = pw_g h44 146 j)).trans (by rw [← h44w]; exact pw_g_ne (by omega) : pw_g h44 146 j = pw_g h38 146 j)).trans (by rw [← h38w]; exact pw_g_ne (by omega) : pw_g h38 146 j = pw_g h35 146 j)
                            have hl58 : ∀ j : Nat, pw_g h54 147 j = pw_g h35 147 j := fun j => ((((by rw [← h54w]; exact pw_g_ne (by omega) : pw_g h54 147 j = pw_g h50 147 j)).trans (by rw [← h50w]; exact pw_g_ne (by omega) : pw_g h50 147 j = pw_g h44 147 j)).trans (by rw [← h44w]; exact pw_g_ne (by omega) : pw_g h44 147 j = pw_g h38 147 j)).trans (by rw [← h38w]; exact pw_g_ne (by omega) : pw_g h38 147 j = pw_g h35 147 j)
                            have hl59 : ∀ j : Nat, pw_g h54 157 j = pw_g h38 157 j := fun j => (((by rw [← h54w]; exact pw_g_ne (by omega) : pw_g h54 157 j = pw_g h50 157 j)).trans (by rw [← h50w]; exact pw_g_ne (by omega) : pw_g h50 157 j = pw_g h44 157 j)).trans (by rw [← h44w]; exact pw_g_ne (by omega) : pw_g h44 157 j = pw_g h38 157 j)
                            have hl60 : ∀ j : Nat, pw_g h35 157 j = pw_g gh53 157 j := fun j => (pw_Eg (c := 157) I53 h35E rfl rfl j : pw_g h35 157 j = pw_g gh53 157 j)
                            have hw0 : pw_g h38 157 (ix.toNat) = pw_g h35 161 (Int.toNat 0) := by rw [← h38w]; exact pw_g_eqA h35I rfl (by omega) (by omega) (by omega)
                            have hw1 : ∀ j : Nat, j ≠ ix.toNat → pw_g h38 157 j = pw_g h35 157 j := fun j hj => by rw [← h38w]; exact pw_g_ne (fun q => hj q.2.symm)
                            have hkc : pw_KC gh53 h54 (5 + ix) (pw_g gh53 125 32) := ⟨fun j hj => ⟨(hl57 _).trans (hqkeep.1 j hj).1, (hl58 _).trans (hqkeep.1 j hj).2⟩, fun j hj => ⟨(hl57 _).trans (hqkeep.2 j hj).1, (hl58 _).trans (hqkeep.2 j hj).2⟩⟩
                            exact ⟨h54I, h54F, (hp0.of hx53_3.1 hx53_3.2.1 hx53_3.2.2).wri (L := pw_g gh53 161 0) (by omega) (by omega) (hx53_2 (by omega)).1 (by omega) ((hl59 _).trans (hw0.trans (hl55 0))) (fun j hj => (hl59 j).trans ((hw1 j hj).trans (hl60 j))) hkc hl56, ⟨_, rfl, by omega, by omega⟩⟩
                          · intro hc61
                            change ¬ ((0 : Int) ≤ pw_g h44 161 (Int.toNat 2)) at hc61
                            refine pw_bip E (pc' := 151) rfl rfl (by decide) ?_
                            refine pw_goto E (pc' := 160) rfl (by decide) ?_
                            refine pw_ast0 h44I E (c := 159) (pc' := 161) rfl rfl rfl (by decide) rfl (by decide) (by omega) (by omega) rfl (by omega) (by omega) (by omega) (by omega) rfl ?_
                            intro h62I h62E
                            generalize h62w : pw_w h44 159 (ix.toNat) (pw_i 11) = h62 at h62I h62E ⊢
                            have h62F := h44F.tr (h62E.wk (W' := [125, 127, 128, 129, 146, 147, 157, 158, 159, 160, 161, 1002]) (by first | rfl | simp))
                            have hl63 : ∀ j : Nat, pw_g h62 161 j = pw_g gh53 161 j := fun j => ((((by rw [← h62w]; exact pw_g_ne (by omega) : pw_g h62 161 j = pw_g h44 161 j)).trans (by rw [← h44w]; exact pw_g_ne (by omega) : pw_g h44 161 j = pw_g h38 161 j)).trans (by rw [← h38w]; exact pw_g_ne (by omega) : pw_g h38 161 j = pw_g h35 161 j)).trans (pw_Eg (c := 161) I53 h35E rfl rfl j : pw_g h35 161 j = pw_g gh53 161 j)
                            have hr64 : pw_g h62 161 (Int.toNat 3) ≤ 10 := by rw [hl63]; exact (hx53_2 (by omega)).2.2.2
                            refine pw_ld E (pc' := 162) (st' := [.ref 141]) rfl (fun _ => rfl) ?_
                            refine pw_getR (b := 176) h62I E (c := 125) (k := 49) (pc' := 165) rfl rfl rfl rfl rfl rfl rfl ?_
                            refine pw_ld E (pc' := 166) (st' := [pw_i ix, .ref 176]) rfl (fun _ => rfl) ?_
                            refine pw_ld E (pc' := 167) (st' := [.ref 141, pw_i ix, .ref 176]) rfl (fun _ => rfl) ?_
                            refine pw_getR (b := 177) h62I E (c := 125) (k := 50) (pc' := 170) rfl rfl rfl rfl rfl rfl rfl ?_
                            refine pw_ld E (pc' := 171) (st' := [pw_i 3, .ref 177, pw_i ix, .ref 176]) rfl (fun _ => rfl) ?_
                            refine pw_ald2 h62I E (c := 161) (pc' := 172) rfl rfl rfl (by decide) rfl (by decide) (by omega) (by omega) rfl (fun hf65a hf65b => ?_)
                            refine pw_ast0 h62I E (c := 160) (pc' := 173) rfl rfl rfl (by decide) rfl (by decide) (by omega) (by omega) rfl (by omega) (by omega) (by omega) (by omega) rfl ?_
                            intro h66I h66E
                            generalize h66w : pw_w h62 160 (ix.toNat) (pw_i (pw_g h62 161 (Int.toNat 3))) = h66 at h66I h66E ⊢
                            have h66F := h62F.tr (h66E.wk (W' := [125, 127, 128, 129, 146, 147, 157, 158, 159, 160, 161, 1002]) (by first | rfl | simp))
                            refine pw_ld E (pc' := 174) (st' := [pw_i 0]) rfl (fun _ => rfl) ?_
                            refine pw_iret E rfl ?_
                            have hl67 : ∀ j : Nat, pw_g h35 161 j = pw_g gh53 161 j := fun j => (pw_Eg (c := 161) I53 h35E rfl rfl j : pw_g h35 161 j = pw_g gh53 161 j)
                            have hl68 : ∀ j : Nat, pw_g h66 145 j = pw_g gh53 145 j := fun j => (((((by rw [← h66w]; exact pw_g_ne (by omega) : pw_g h66 145 j = pw_g h62 145 j)).trans (by rw [← h62w]; exact pw_g_ne (by omega) : pw_g h62 145 j = pw_g h44 145 j)).trans (by rw [← h44w]; exact pw_g_ne (by omega) : pw_g h44 145 j = pw_g h38 145 j)).trans (by rw [← h38w]; exact pw_g_ne (by omega) : pw_g h38 145 j = pw_g h35 145 j)).trans (pw_Eg (c := 145) I53 h35E rfl rfl j : pw_g h35 145 j = pw_g gh53 145 j)
                            have hl69 : ∀ j : Nat, pw_g h66 146 j = pw_g h35 146 j := fun j => ((((by rw [← h66w]; exact pw_g_ne (by omega) : pw_g h66 146 j = pw_g h62 146 j)).trans (by rw [← h62w]; exact pw_g_ne (by omega) : pw_g h62 146 j = pw_g h44 146 j)).trans (by rw [← h44w]; exact pw_g_ne (by omega) : pw_g h44 146 j = pw_g h38 146 j)).trans (by rw [← h38w]; exact pw_g_ne (by omega) : pw_g h38 146 j = pw_g h35 146 j)
                            have hl70 : ∀ j : Nat, pw_g h66 147 j = pw_g h35 147 j := fun j => ((((by rw [← h66w]; exact pw_g_ne (by omega) : pw_g h66 147 j = pw_g h62 147 j)).trans (by rw [← h62w]; exact pw_g_ne (by omega) : pw_g h62 147 j = pw_g h44 147 j)).trans (by rw [← h44w]; exact pw_g_ne (by omega) : pw_g h44 147 j = pw_g h38 147 j)).trans (by rw [← h38w]; exact pw_g_ne (by omega) : pw_g h38 147 j = pw_g h35 147 j)
                            have hl71 : ∀ j : Nat, pw_g h66 157 j = pw_g h38 157 j := fun j => (((by rw [← h66w]; exact pw_g_ne (by omega) : pw_g h66 157 j = pw_g h62 157 j)).trans (by rw [← h62w]; exact pw_g_ne (by omega) : pw_g h62 157 j = pw_g h44 157 j)).trans (by rw [← h44w]; exact pw_g_ne (by omega) : pw_g h44 157 j = pw_g h38 157 j)
                            have hl72 : ∀ j : Nat, pw_g h35 157 j = pw_g gh53 157 j := fun j => (pw_Eg (c := 157) I53 h35E rfl rfl j : pw_g h35 157 j = pw_g gh53 157 j)
                            have hw0 : pw_g h38 157 (ix.toNat) = pw_g h35 161 (Int.toNat 0) := by rw [← h38w]; exact pw_g_eqA h35I rfl (by omega) (by omega) (by omega)
                            have hw1 : ∀ j : Nat, j ≠ ix.toNat → pw_g h38 157 j = pw_g h35 157 j := fun j hj => by rw [← h38w]; exact pw_g_ne (fun q => hj q.2.symm)
                            have hkc : pw_KC gh53 h66 (5 + ix) (pw_g gh53 125 32) := ⟨fun j hj => ⟨(hl69 _).trans (hqkeep.1 j hj).1, (hl70 _).trans (hqkeep.1 j hj).2⟩, fun j hj => ⟨(hl69 _).trans (hqkeep.2 j hj).1, (hl70 _).trans (hqkeep.2 j hj).2⟩⟩
                            exact ⟨h66I, h66F, (hp0.of hx53_3.1 hx53_3.2.1 hx53_3.2.2).wri (L := pw_g gh53 161 0) (by omega) (by omega) (hx53_2 (by omega)).1 (by omega) ((hl71 _).trans (hw0.trans (hl67 0))) (fun j hj => (hl71 j).trans ((hw1 j hj).trans (hl72 j))) hkc hl68, ⟨_, rfl, by omega, by omega⟩⟩
                        · intro hc73
                          change ¬ ((0 : Int) ≤ pw_g h38 161 (Int.toNat 1)) at hc73
                          refine pw_ld E (pc' := 125) (st' := [pw_i 0, pw_i ix, .ref 174]) rfl (fun _ => rfl) ?_
                          refine pw_goto E (pc' := 134) rfl (by decide) ?_
                          refine pw_ast0 h38I E (c := 158) (pc' := 135) rfl rfl rfl (by decide) rfl (by decide) (by omega) (by omega) rfl (by omega) (by omega) (by omega) (by omega) rfl ?_
                          intro h74I h74E
                          generalize h74w : pw_w h38 158 (ix.toNat) (pw_i 0) = h74 at h74I h74E ⊢
                          have h74F := h38F.tr (h74E.wk (W' := [125, 127, 128, 129, 146, 147, 157, 158, 159, 160, 161, 1002]) (by first | rfl | simp))
                          have hl75 : ∀ j : Nat, pw_g h74 161 j = pw_g gh53 161 j := fun j => (((by rw [← h74w]; exact pw_g_ne (by omega) : pw_g h74 161 j = pw_g h38 161 j)).trans (by rw [← h38w]; exact pw_g_ne (by omega) : pw_g h38 161 j = pw_g h35 161 j)).trans (pw_Eg (c := 161) I53 h35E rfl rfl j : pw_g h35 161 j = pw_g gh53 161 j)
                          have hr76 : pw_g h74 161 (Int.toNat 2) ≤ 11 := by rw [hl75]; exact (hx53_2 (by omega)).2.2.1
                          refine pw_ld E (pc' := 136) (st' := [.ref 141]) rfl (fun _ => rfl) ?_
                          refine pw_getR (b := 175) h74I E (c := 125) (k := 48) (pc' := 139) rfl rfl rfl rfl rfl rfl rfl ?_
                          refine pw_ld E (pc' := 140) (st' := [pw_i ix, .ref 175]) rfl (fun _ => rfl) ?_
                          refine pw_ld E (pc' := 141) (st' := [.ref 141, pw_i ix, .ref 175]) rfl (fun _ => rfl) ?_
                          refine pw_getR (b := 177) h74I E (c := 125) (k := 50) (pc' := 144) rfl rfl rfl rfl rfl rfl rfl ?_
                          refine pw_ld E (pc' := 145) (st' := [pw_i 2, .ref 177, pw_i ix, .ref 175]) rfl (fun _ => rfl) ?_
                          refine pw_ald2 h74I E (c := 161) (pc' := 146) rfl rfl rfl (by decide) rfl (by decide) (by omega) (by omega) rfl (fun hf77a hf77b => ?_)
                          refine pw_if E (pc' := 154) rfl (by decide) (by omega) (by omega) ?_ ?_
                          · intro hc78
                            change (0 : Int) ≤ pw_g h74 161 (Int.toNat 2) at hc78
                            refine pw_ld E (pc' := 155) (st' := [.ref 141, pw_i ix, .ref 175]) rfl (fun _ => rfl) ?_
                            refine pw_getR (b := 177) h74I E (c := 125) (k := 50) (pc' := 158) rfl rfl rfl rfl rfl rfl rfl ?_
                            refine pw_ld E (pc' := 159) (st' := [pw_i 2, .ref 177, pw_i ix, .ref 175]) rfl (fun _ => rfl) ?_
                            refine pw_ald2 h74I E (c := 161) (pc' := 160) rfl rfl rfl (by decide) rfl (by decide) (by omega) (by omega) rfl (fun hf79a hf79b => ?_)
                            refine pw_ast0 h74I E (c := 159) (pc' := 161) rfl rfl rfl (by decide) rfl (by decide) (by omega) (by omega) rfl (by omega) (by omega) (by omega) (by omega) rfl ?_
                            intro h80I h80E
                            generalize h80w : pw_w h74 159 (ix.toNat) (pw_i (pw_g h74 161 (Int.toNat 2))) = h80 at h80I h80E ⊢
                            have h80F := h74F.tr (h80E.wk (W' := [125, 127, 128, 129, 146, 147, 157, 158, 159, 160, 161, 1002]) (by first | rfl | simp))
                            have hl81 : ∀ j : Nat, pw_g h80 161 j = pw_g gh53 161 j := fun j => ((((by rw [← h80w]; exact pw_g_ne (by omega) : pw_g h80 161 j = pw_g h74 161 j)).trans (by rw [← h74w]; exact pw_g_ne (by omega) : pw_g h74 161 j = pw_g h38 161 j)).trans (by rw [← h38w]; exact pw_g_ne (by omega) : pw_g h38 161 j = pw_g h35 161 j)).trans (pw_Eg (c := 161) I53 h35E rfl rfl j : pw_g h35 161 j = pw_g gh53 161 j)
                            have hr82 : pw_g h80 161 (Int.toNat 3) ≤ 10 := by rw [hl81]; exact (hx53_2 (by omega)).2.2.2
                            refine pw_ld E (pc' := 162) (st' := [.ref 141]) rfl (fun _ => rfl) ?_
                            refine pw_getR (b := 176) h80I E (c := 125) (k := 49) (pc' := 165) rfl rfl rfl rfl rfl rfl rfl ?_
                            refine pw_ld E (pc' := 166) (st' := [pw_i ix, .ref 176]) rfl (fun _ => rfl) ?_
                            refine pw_ld E (pc' := 167) (st' := [.ref 141, pw_i ix, .ref 176]) rfl (fun _ => rfl) ?_
                            refine pw_getR (b := 177) h80I E (c := 125) (k := 50) (pc' := 170) rfl rfl rfl rfl rfl rfl rfl ?_
                            refine pw_ld E (pc' := 171) (st' := [pw_i 3, .ref 177, pw_i ix, .ref 176]) rfl (fun _ => rfl) ?_
                            refine pw_ald2 h80I E (c := 161) (pc' := 172) rfl rfl rfl (by decide) rfl (by decide) (by omega) (by omega) rfl (fun hf83a hf83b => ?_)
                            refine pw_ast0 h80I E (c := 160) (pc' := 173) rfl rfl rfl (by decide) rfl (by decide) (by omega) (by omega) rfl (by omega) (by omega) (by omega) (by omega) rfl ?_
                            intro h84I h84E
                            generalize h84w : pw_w h80 160 (ix.toNat) (pw_i (pw_g h80 161 (Int.toNat 3))) = h84 at h84I h84E ⊢
                            have h84F := h80F.tr (h84E.wk (W' := [125, 127, 128, 129, 146, 147, 157, 158, 159, 160, 161, 1002]) (by first | rfl | simp))
                            refine pw_ld E (pc' := 174) (st' := [pw_i 0]) rfl (fun _ => rfl) ?_
                            refine pw_iret E rfl ?_
                            have hl85 : ∀ j : Nat, pw_g h35 161 j = pw_g gh53 161 j := fun j => (pw_Eg (c := 161) I53 h35E rfl rfl j : pw_g h35 161 j = pw_g gh53 161 j)
                            have hl86 : ∀ j : Nat, pw_g h84 145 j = pw_g gh53 145 j := fun j => (((((by rw [← h84w]; exact pw_g_ne (by omega) : pw_g h84 145 j = pw_g h80 145 j)).trans (by rw [← h80w]; exact pw_g_ne (by omega) : pw_g h80 145 j = pw_g h74 145 j)).trans (by rw [← h74w]; exact pw_g_ne (by omega) : pw_g h74 145 j = pw_g h38 145 j)).trans (by rw [← h38w]; exact pw_g_ne (by omega) : pw_g h38 145 j = pw_g h35 145 j)).trans (pw_Eg (c := 145) I53 h35E rfl rfl j : pw_g h35 145 j = pw_g gh53 145 j)
                            have hl87 : ∀ j : Nat, pw_g h84 146 j = pw_g h35 146 j := fun j => ((((by rw [← h84w]; exact pw_g_ne (by omega) : pw_g h84 146 j = pw_g h80 146 j)).trans (by rw [← h80w]; exact pw_g_ne (by omega) : pw_g h80 146 j = pw_g h74 146 j)).trans (by rw [← h74w]; exact pw_g_ne (by omega) : pw_g h74 146 j = pw_g h38 146 j)).trans (by rw [← h38w]; exact pw_g_ne (by omega) : pw_g h38 146 j = pw_g h35 146 j)
                            have hl88 : ∀ j : Nat, pw_g h84 147 j = pw_g h35 147 j := fun j => ((((by rw [← h84w]; exact pw_g_ne (by omega) : pw_g h84 147 j = pw_g h80 147 j)).trans (by rw [← h80w]; exact pw_g_ne (by omega) : pw_g h80 147 j = pw_g h74 147 j)).trans (by rw [← h74w]; exact pw_g_ne (by omega) : pw_g h74 147 j = pw_g h38 147 j)).trans (by rw [← h38w]; exact pw_g_ne (by omega) : pw_g h38 147 j = pw_g h35 147 j)
                            have hl89 : ∀ j : Nat, pw_g h84 157 j = pw_g h38 157 j := fun j => (((by rw [← h84w]; exact pw_g_ne (by omega) : pw_g h84 157 j = pw_g h80 157 j)).trans (by rw [← h80w]; exact pw_g_ne (by omega) : pw_g h80 157 j = pw_g h74 157 j)).trans (by rw [← h74w]; exact pw_g_ne (by omega) : pw_g h74 157 j = pw_g h38 157 j)
                            have hl90 : ∀ j : Nat, pw_g h35 157 j = pw_g gh53 157 j := fun j => (pw_Eg (c := 157) I53 h35E rfl rfl j : pw_g h35 157 j = pw_g gh53 157 j)
                            have hw0 : pw_g h38 157 (ix.toNat) = pw_g h35 161 (Int.toNat 0) := by rw [← h38w]; exact pw_g_eqA h35I rfl (by omega) (by omega) (by omega)
                            have hw1 : ∀ j : Nat, j ≠ ix.toNat → pw_g h38 157 j = pw_g h35 157 j := fun j hj => by rw [← h38w]; exact pw_g_ne (fun q => hj q.2.symm)
                            have hkc : pw_KC gh53 h84 (5 + ix) (pw_g gh53 125 32) := ⟨fun j hj => ⟨(hl87 _).trans (hqkeep.1 j hj).1, (hl88 _).trans (hqkeep.1 j hj).2⟩, fun j hj => ⟨(hl87 _).trans (hqkeep.2 j hj).1, (hl88 _).trans (hqkeep.2 j hj).2⟩⟩
                            exact ⟨h84I, h84F, (hp0.of hx53_3.1 hx53_3.2.1 hx53_3.2.2).wri (L := pw_g gh53 161 0) (by omega) (by omega) (hx53_2 (by omega)).1 (by omega) ((hl89 _).trans (hw0.trans (hl85 0))) (fun j hj => (hl89 j).trans ((hw1 j hj).trans (hl90 j))) hkc hl86, ⟨_, rfl, by omega, by omega⟩⟩
                          · intro hc91
                            change ¬ ((0 : Int) ≤ pw_g h74 161 (Int.toNat 2)) at hc91
                            refine pw_bip E (pc' := 151) rfl rfl (by decide) ?_
                            refine pw_goto E (pc' := 160) rfl (by decide) ?_
                            refine pw_ast0 h74I E (c := 159) (pc' := 161) rfl rfl rfl (by decide) rfl (by decide) (by omega) (by omega) rfl (by omega) (by omega) (by omega) (by omega) rfl ?_
                            intro h92I h92E
                            generalize h92w : pw_w h74 159 (ix.toNat) (pw_i 11) = h92 at h92I h92E ⊢
                            have h92F := h74F.tr (h92E.wk (W' := [125, 127, 128, 129, 146, 147, 157, 158, 159, 160, 161, 1002]) (by first | rfl | simp))
                            have hl93 : ∀ j : Nat, pw_g h92 161 j = pw_g gh53 161 j := fun j => ((((by rw [← h92w]; exact pw_g_ne (by omega) : pw_g h92 161 j = pw_g h74 161 j)).trans (by rw [← h74w]; exact pw_g_ne (by omega) : pw_g h74 161 j = pw_g h38 161 j)).trans (by rw [← h38w]; exact pw_g_ne (by omega) : pw_g h38 161 j = pw_g h35 161 j)).trans (pw_Eg (c := 161) I53 h35E rfl rfl j : pw_g h35 161 j = pw_g gh53 161 j)
                            have hr94 : pw_g h92 161 (Int.toNat 3) ≤ 10 := by rw [hl93]; exact (hx53_2 (by omega)).2.2.2
                            refine pw_ld E (pc' := 162) (st' := [.ref 141]) rfl (fun _ => rfl) ?_
                            refine pw_getR (b := 176) h92I E (c := 125) (k := 49) (pc' := 165) rfl rfl rfl rfl rfl rfl rfl ?_
                            refine pw_ld E (pc' := 166) (st' := [pw_i ix, .ref 176]) rfl (fun _ => rfl) ?_
                            refine pw_ld E (pc' := 167) (st' := [.ref 141, pw_i ix, .ref 176]) rfl (fun _ => rfl) ?_
                            refine pw_getR (b := 177) h92I E (c := 125) (k := 50) (pc' := 170) rfl rfl rfl rfl rfl rfl rfl ?_
                            refine pw_ld E (pc' := 171) (st' := [pw_i 3, .ref 177, pw_i ix, .ref 176]) rfl (fun _ => rfl) ?_
                            refine pw_ald2 h92I E (c := 161) (pc' := 172) rfl rfl rfl (by decide) rfl (by decide) (by omega) (by omega) rfl (fun hf95a hf95b => ?_)
                            refine pw_ast0 h92I E (c := 160) (pc' := 173) rfl rfl rfl (by decide) rfl (by decide) (by omega) (by omega) rfl (by omega) (by omega) (by omega) (by omega) rfl ?_
                            intro h96I h96E
                            generalize h96w : pw_w h92 160 (ix.toNat) (pw_i (pw_g h92 161 (Int.toNat 3))) = h96 at h96I h96E ⊢
                            have h96F := h92F.tr (h96E.wk (W' := [125, 127, 128, 129, 146, 147, 157, 158, 159, 160, 161, 1002]) (by first | rfl | simp))
                            refine pw_ld E (pc' := 174) (st' := [pw_i 0]) rfl (fun _ => rfl) ?_
                            refine pw_iret E rfl ?_
                            have hl97 : ∀ j : Nat, pw_g h35 161 j = pw_g gh53 161 j := fun j => (pw_Eg (c := 161) I53 h35E rfl rfl j : pw_g h35 161 j = pw_g gh53 161 j)
                            have hl98 : ∀ j : Nat, pw_g h96 145 j = pw_g gh53 145 j := fun j => (((((by rw [← h96w]; exact pw_g_ne (by omega) : pw_g h96 145 j = pw_g h92 145 j)).trans (by rw [← h92w]; exact pw_g_ne (by omega) : pw_g h92 145 j = pw_g h74 145 j)).trans (by rw [← h74w]; exact pw_g_ne (by omega) : pw_g h74 145 j = pw_g h38 145 j)).trans (by rw [← h38w]; exact pw_g_ne (by omega) : pw_g h38 145 j = pw_g h35 145 j)).trans (pw_Eg (c := 145) I53 h35E rfl rfl j : pw_g h35 145 j = pw_g gh53 145 j)
                            have hl99 : ∀ j : Nat, pw_g h96 146 j = pw_g h35 146 j := fun j => ((((by rw [← h96w]; exact pw_g_ne (by omega) : pw_g h96 146 j = pw_g h92 146 j)).trans (by rw [← h92w]; exact pw_g_ne (by omega) : pw_g h92 146 j = pw_g h74 146 j)).trans (by rw [← h74w]; exact pw_g_ne (by omega) : pw_g h74 146 j = pw_g h38 146 j)).trans (by rw [← h38w]; exact pw_g_ne (by omega) : pw_g h38 146 j = pw_g h35 146 j)
                            have hl100 : ∀ j : Nat, pw_g h96 147 j = pw_g h35 147 j := fun j => ((((by rw [← h96w]; exact pw_g_ne (by omega) : pw_g h96 147 j = pw_g h92 147 j)).trans (by rw [← h92w]; exact pw_g_ne (by omega) : pw_g h92 147 j = pw_g h74 147 j)).trans (by rw [← h74w]; exact pw_g_ne (by omega) : pw_g h74 147 j = pw_g h38 147 j)).trans (by rw [← h38w]; exact pw_g_ne (by omega) : pw_g h38 147 j = pw_g h35 147 j)
                            have hl101 : ∀ j : Nat, pw_g h96 157 j = pw_g h38 157 j := fun j => (((by rw [← h96w]; exact pw_g_ne (by omega) : pw_g h96 157 j = pw_g h92 157 j)).trans (by rw [← h92w]; exact pw_g_ne (by omega) : pw_g h92 157 j = pw_g h74 157 j)).trans (by rw [← h74w]; exact pw_g_ne (by omega) : pw_g h74 157 j = pw_g h38 157 j)
                            have hl102 : ∀ j : Nat, pw_g h35 157 j = pw_g gh53 157 j := fun j => (pw_Eg (c := 157) I53 h35E rfl rfl j : pw_g h35 157 j = pw_g gh53 157 j)
                            have hw0 : pw_g h38 157 (ix.toNat) = pw_g h35 161 (Int.toNat 0) := by rw [← h38w]; exact pw_g_eqA h35I rfl (by omega) (by omega) (by omega)
                            have hw1 : ∀ j : Nat, j ≠ ix.toNat → pw_g h38 157 j = pw_g h35 157 j := fun j hj => by rw [← h38w]; exact pw_g_ne (fun q => hj q.2.symm)
                            have hkc : pw_KC gh53 h96 (5 + ix) (pw_g gh53 125 32) := ⟨fun j hj => ⟨(hl99 _).trans (hqkeep.1 j hj).1, (hl100 _).trans (hqkeep.1 j hj).2⟩, fun j hj => ⟨(hl99 _).trans (hqkeep.2 j hj).1, (hl100 _).trans (hqkeep.2 j hj).2⟩⟩
                            exact ⟨h96I, h96F, (hp0.of hx53_3.1 hx53_3.2.1 hx53_3.2.2).wri (L := pw_g gh53 161 0) (by omega) (by omega) (hx53_2 (by omega)).1 (by omega) ((hl101 _).trans (hw0.trans (hl97 0))) (fun j hj => (hl101 j).trans ((hw1 j hj).trans (hl102 j))) hkc hl98, ⟨_, rfl, by omega, by omega⟩⟩
                      · intro hc103
                        change ¬ (pw_g gh53 125 8 ≤ (0 : Int)) at hc103
                        refine pw_ld E (pc' := 87) (st' := [.ref 141]) rfl (fun _ => rfl) ?_
                        refine pw_getI2 I53 E (c := 125) (k := 8) (pc' := 90) rfl rfl rfl rfl rfl rfl (fun hf104a hf104b => ?_)
                        refine pw_iret E rfl ?_
                        exact ⟨I53, E53, (hp0.of hx53_3.1 hx53_3.2.1 hx53_3.2.2), ⟨_, rfl, by omega, by omega⟩⟩
                    · intro hc105
                      change ¬ (pw_g gh53 125 8 ≠ (0 : Int)) at hc105
                      refine pw_ld E (pc' := 61) (st' := [.ref 141]) rfl (fun _ => rfl) ?_
                      refine pw_getR (b := 143) I53 E (c := 125) (k := 4) (pc' := 64) rfl rfl rfl rfl rfl rfl rfl ?_
                      refine pw_ld E (pc' := 65) (st' := [.ref 141, .ref 143]) rfl (fun _ => rfl) ?_
                      refine pw_getI2 I53 E (c := 125) (k := 7) (pc' := 68) rfl rfl rfl rfl rfl rfl (fun hf106a hf106b => ?_)
                      refine pw_ald2 I53 E (c := 127) (pc' := 69) rfl rfl rfl (by decide) rfl (by decide) (by omega) (by omega) rfl (fun hf107a hf107b => ?_)
                      refine pw_if E (pc' := 79) rfl (by decide) (by omega) (by omega) ?_ ?_
                      · intro hc108
                        change pw_g gh53 127 ((pw_g gh53 125 7).toNat) = (0 : Int) at hc108
                        have hA53 : pw_g gh53 125 7 ≤ n ∧ 0 ≤ pw_g gh53 125 8 ∧ 0 ≤ pw_g gh53 125 7 ∧ 0 ≤ pw_g gh53 125 32 := hx53_0.2.2
                        have hn1 : n ≤ 1000 := hx53_0.1
                        refine pw_ld E (pc' := 80) (st' := [.ref 141]) rfl (fun _ => rfl) ?_
                        refine pw_getI2 I53 E (c := 125) (k := 8) (pc' := 83) rfl rfl rfl rfl rfl rfl (fun hf109a hf109b => ?_)
                        refine pw_if E (pc' := 91) rfl (by decide) (by omega) (by omega) ?_ ?_
                        · intro hc110
                          change pw_g gh53 125 8 ≤ (0 : Int) at hc110
                          refine pw_ld E (pc' := 92) (st' := [.ref 141]) rfl (fun _ => rfl) ?_
                          refine pw_ld E (pc' := 93) (st' := [pw_i 5, .ref 141]) rfl (fun _ => rfl) ?_
                          refine pw_ld E (pc' := 94) (st' := [pw_i ix, pw_i 5, .ref 141]) rfl (fun _ => rfl) ?_
                          refine pw_add E (pc' := 95) rfl rfl ?_
                          obtain ⟨f111l, f111h, -⟩ := pw_obj (c := 125) I53 rfl
                          refine pw_call (m' := 258) (As := [.ref 141, pw_i (5 + ix)]) (rest := []) (ls'' := [some (.ref 141), some (pw_i (5 + ix)), none]) (Nat.le_trans (by decide) hd) E rfl (fun _ => pw_iV rfl rfl rfl rfl (pw_cellI f111h rfl)) (rfl : pm_ent 258 = some (2, 3, 12, 4, pmc_258)) rfl rfl (cm_258 (pw_dp hd (by decide)) I53 (5 + ix) (by omega) (by omega) (by omega) (by omega)) ?_
                          rintro h112 v113 ⟨h112I, h112E, hqkeep, rfl⟩
                          refine ⟨_, rfl, ?_⟩
                          have h112F := E53.tr (h112E.wk (W' := [125, 127, 128, 129, 146, 147, 157, 158, 159, 160, 161, 1002]) (by first | rfl | simp))
                          show pw X d h112 277 98 [some (.ref 141), some (pw_i ix), some (pw_i ((((0 + 1) + 1) + 1) + 1))] [] _
                          refine pw_ld E (pc' := 99) (st' := [.ref 141]) rfl (fun _ => rfl) ?_
                          refine pw_getR (b := 173) h112I E (c := 125) (k := 46) (pc' := 102) rfl rfl rfl rfl rfl rfl rfl ?_
                          refine pw_ld E (pc' := 103) (st' := [pw_i ix, .ref 173]) rfl (fun _ => rfl) ?_
                          refine pw_ld E (pc' := 104) (st' := [.ref 141, pw_i ix, .ref 173]) rfl (fun _ => rfl) ?_
                          refine pw_getR (b := 177) h112I E (c := 125) (k := 50) (pc' := 107) rfl rfl rfl rfl rfl rfl rfl ?_
                          refine pw_ld E (pc' := 108) (st' := [pw_i 0, .ref 177, pw_i ix, .ref 173]) rfl (fun _ => rfl) ?_
                          refine pw_ald2 h112I E (c := 161) (pc' := 109) rfl rfl rfl (by decide) rfl (by decide) (by omega) (by omega) rfl (fun hf114a hf114b => ?_)
                          refine pw_ast0 h112I E (c := 157) (pc' := 110) rfl rfl rfl (by decide) rfl (by decide) (by omega) (by omega) rfl (by omega) (by omega) (by omega) (by omega) rfl ?_
                          intro h115I h115E
                          generalize h115w : pw_w h112 157 (ix.toNat) (pw_i (pw_g h112 161 (Int.toNat 0))) = h115 at h115I h115E ⊢
                          have h115F := h112F.tr (h115E.wk (W' := [125, 127, 128, 129, 146, 147, 157, 158, 159, 160, 161, 1002]) (by first | rfl | simp))
                          have hl116 : ∀ j : Nat, pw_g h115 161 j = pw_g gh53 161 j := fun j => ((by rw [← h115w]; exact pw_g_ne (by omega) : pw_g h115 161 j = pw_g h112 161 j)).trans (pw_Eg (c := 161) I53 h112E rfl rfl j : pw_g h112 161 j = pw_g gh53 161 j)
                          have hr117 : pw_g h115 161 (Int.toNat 1) ≤ 11 := by rw [hl116]; exact (hx53_2 (by omega)).2.1
                          refine pw_ld E (pc' := 111) (st' := [.ref 141]) rfl (fun _ => rfl) ?_
                          refine pw_getR (b := 174) h115I E (c := 125) (k := 47) (pc' := 114) rfl rfl rfl rfl rfl rfl rfl ?_
                          refine pw_ld E (pc' := 115) (st' := [pw_i ix, .ref 174]) rfl (fun _ => rfl) ?_
                          refine pw_ld E (pc' := 116) (st' := [.ref 141, pw_i ix, .ref 174]) rfl (fun _ => rfl) ?_
                          refine pw_getR (b := 177) h115I E (c := 125) (k := 50) (pc' := 119) rfl rfl rfl rfl rfl rfl rfl ?_
                          refine pw_ld E (pc' := 120) (st' := [pw_i 1, .ref 177, pw_i ix, .ref 174]) rfl (fun _ => rfl) ?_
                          refine pw_ald2 h115I E (c := 161) (pc' := 121) rfl rfl rfl (by decide) rfl (by decide) (by omega) (by omega) rfl (fun hf118a hf118b => ?_)
                          refine pw_if E (pc' := 128) rfl (by decide) (by omega) (by omega) ?_ ?_
                          · intro hc119
                            change (0 : Int) ≤ pw_g h115 161 (Int.toNat 1) at hc119
                            refine pw_ld E (pc' := 129) (st' := [.ref 141, pw_i ix, .ref 174]) rfl (fun _ => rfl) ?_
                            refine pw_getR (b := 177) h115I E (c := 125) (k := 50) (pc' := 132) rfl rfl rfl rfl rfl rfl rfl ?_
                            refine pw_ld E (pc' := 133) (st' := [pw_i 1, .ref 177, pw_i ix, .ref 174]) rfl (fun _ => rfl) ?_
                            refine pw_ald2 h115I E (c := 161) (pc' := 134) rfl rfl rfl (by decide) rfl (by decide) (by omega) (by omega) rfl (fun hf120a hf120b => ?_)
                            refine pw_ast0 h115I E (c := 158) (pc' := 135) rfl rfl rfl (by decide) rfl (by decide) (by omega) (by omega) rfl (by omega) (by omega) (by omega) (by omega) rfl ?_
                            intro h121I h121E
                            generalize h121w : pw_w h115 158 (ix.toNat) (pw_i (pw_g h115 161 (Int.toNat 1))) = h121 at h121I h121E ⊢
                            have h121F := h115F.tr (h121E.wk (W' := [125, 127, 128, 129, 146, 147, 157, 158, 159, 160, 161, 1002]) (by first | rfl | simp))
                            have hl122 : ∀ j : Nat, pw_g h121 161 j = pw_g gh53 161 j := fun j => (((by rw [← h121w]; exact pw_g_ne (by omega) : pw_g h121 161 j = pw_g h115 161 j)).trans (by rw [← h115w]; exact pw_g_ne (by omega) : pw_g h115 161 j = pw_g h112 161 j)).trans (pw_Eg (c := 161) I53 h112E rfl rfl j : pw_g h112 161 j = pw_g gh53 161 j)
                            have hr123 : pw_g h121 161 (Int.toNat 2) ≤ 11 := by rw [hl122]; exact (hx53_2 (by omega)).2.2.1
                            refine pw_ld E (pc' := 136) (st' := [.ref 141]) rfl (fun _ => rfl) ?_
                            refine pw_getR (b := 175) h121I E (c := 125) (k := 48) (pc' := 139) rfl rfl rfl rfl rfl rfl rfl ?_
                            refine pw_ld E (pc' := 140) (st' := [pw_i ix, .ref 175]) rfl (fun _ => rfl) ?_
                            refine pw_ld E (pc' := 141) (st' := [.ref 141, pw_i ix, .ref 175]) rfl (fun _ => rfl) ?_
                            refine pw_getR (b := 177) h121I E (c := 125) (k := 50) (pc' := 144) rfl rfl rfl rfl rfl rfl rfl ?_
                            refine pw_ld E (pc' := 145) (st' := [pw_i 2, .ref 177, pw_i ix, .ref 175]) rfl (fun _ => rfl) ?_
                            refine pw_ald2 h121I E (c := 161) (pc' := 146) rfl rfl rfl (by decide) rfl (by decide) (by omega) (by omega) rfl (fun hf124a hf124b => ?_)
                            refine pw_if E (pc' := 154) rfl (by decide) (by omega) (by omega) ?_ ?_
                            · intro hc125
                              change (0 : Int) ≤ pw_g h121 161 (Int.toNat 2) at hc125
                              refine pw_ld E (pc' := 155) (st' := [.ref 141, pw_i ix, .ref 175]) rfl (fun _ => rfl) ?_
                              refine pw_getR (b := 177) h121I E (c := 125) (k := 50) (pc' := 158) rfl rfl rfl rfl rfl rfl rfl ?_
                              refine pw_ld E (pc' := 159) (st' := [pw_i 2, .ref 177, pw_i ix, .ref 175]) rfl (fun _ => rfl) ?_
                              refine pw_ald2 h121I E (c := 161) (pc' := 160) rfl rfl rfl (by decide) rfl (by decide) (by omega) (by omega) rfl (fun hf126a hf126b => ?_)
                              refine pw_ast0 h121I E (c := 159) (pc' := 161) rfl rfl rfl (by decide) rfl (by decide) (by omega) (by omega) rfl (by omega) (by omega) (by omega) (by omega) rfl ?_
                              intro h127I h127E
                              generalize h127w : pw_w h121 159 (ix.toNat) (pw_i (pw_g h121 161 (Int.toNat 2))) = h127 at h127I h127E ⊢
                              have h127F := h121F.tr (h127E.wk (W' := [125, 127, 128, 129, 146, 147, 157, 158, 159, 160, 161, 1002]) (by first | rfl | simp))
                              have hl128 : ∀ j : Nat, pw_g h127 161 j = pw_g gh53 161 j := fun j => ((((by rw [← h127w]; exact pw_g_ne (by omega) : pw_g h127 161 j = pw_g h121 161 j)).trans (by rw [← h121w]; exact pw_g_ne (by omega) : pw_g h121 161 j = pw_g h115 161 j)).trans (by rw [← h115w]; exact pw_g_ne (by omega) : pw_g h115 161 j = pw_g h112 161 j)).trans (pw_Eg (c := 161) I53 h112E rfl rfl j : pw_g h112 161 j = pw_g gh53 161 j)
                              have hr129 : pw_g h127 161 (Int.toNat 3) ≤ 10 := by rw [hl128]; exact (hx53_2 (by omega)).2.2.2
                              refine pw_ld E (pc' := 162) (st' := [.ref 141]) rfl (fun _ => rfl) ?_
                              refine pw_getR (b := 176) h127I E (c := 125) (k := 49) (pc' := 165) rfl rfl rfl rfl rfl rfl rfl ?_
                              refine pw_ld E (pc' := 166) (st' := [pw_i ix, .ref 176]) rfl (fun _ => rfl) ?_
                              refine pw_ld E (pc' := 167) (st' := [.ref 141, pw_i ix, .ref 176]) rfl (fun _ => rfl) ?_
                              refine pw_getR (b := 177) h127I E (c := 125) (k := 50) (pc' := 170) rfl rfl rfl rfl rfl rfl rfl ?_
                              refine pw_ld E (pc' := 171) (st' := [pw_i 3, .ref 177, pw_i ix, .ref 176]) rfl (fun _ => rfl) ?_
                              refine pw_ald2 h127I E (c := 161) (pc' := 172) rfl rfl rfl (by decide) rfl (by decide) (by omega) (by omega) rfl (fun hf130a hf130b => ?_)
                              refine pw_ast0 h127I E (c := 160) (pc' := 173) rfl rfl rfl (by decide) rfl (by decide) (by omega) (by omega) rfl (by omega) (by omega) (by omega) (by omega) rfl ?_
                              intro h131I h131E
                              generalize h131w : pw_w h127 160 (ix.toNat) (pw_i (pw_g h127 161 (Int.toNat 3))) = h131 at h131I h131E ⊢
                              have h131F := h127F.tr (h131E.wk (W' := [125, 127, 128, 129, 146, 147, 157, 158, 159, 160, 161, 1002]) (by first | rfl | simp))
                              refine pw_ld E (pc' := 174) (st' := [pw_i 0]) rfl (fun _ => rfl) ?_
                              refine pw_iret E rfl ?_
                              have hl132 : ∀ j : Nat, pw_g h112 161 j = pw_g gh53 161 j := fun j => (pw_Eg (c := 161) I53 h112E rfl rfl j : pw_g h112 161 j = pw_g gh53 161 j)
                              have hl133 : ∀ j : Nat, pw_g h131 145 j = pw_g gh53 145 j := fun j => (((((by rw [← h131w]; exact pw_g_ne (by omega) : pw_g h131 145 j = pw_g h127 145 j)).trans (by rw [← h127w]; exact pw_g_ne (by omega) : pw_g h127 145 j = pw_g h121 145 j)).trans (by rw [← h121w]; exact pw_g_ne (by omega) : pw_g h121 145 j = pw_g h115 145 j)).trans (by rw [← h115w]; exact pw_g_ne (by omega) : pw_g h115 145 j = pw_g h112 145 j)).trans (pw_Eg (c := 145) I53 h112E rfl rfl j : pw_g h112 145 j = pw_g gh53 145 j)
                              have hl134 : ∀ j : Nat, pw_g h131 146 j = pw_g h112 146 j := fun j => ((((by rw [← h131w]; exact pw_g_ne (by omega) : pw_g h131 146 j = pw_g h127 146 j)).trans (by rw [← h127w]; exact pw_g_ne (by omega) : pw_g h127 146 j = pw_g h121 146 j)).trans (by rw [← h121w]; exact pw_g_ne (by omega) : pw_g h121 146 j = pw_g h115 146 j)).trans (by rw [← h115w]; exact pw_g_ne (by omega) : pw_g h115 146 j = pw_g h112 146 j)
                              have hl135 : ∀ j : Nat, pw_g h131 147 j = pw_g h112 147 j := fun j => ((((by rw [← h131w]; exact pw_g_ne (by omega) : pw_g h131 147 j = pw_g h127 147 j)).trans (by rw [← h127w]; exact pw_g_ne (by omega) : pw_g h127 147 j = pw_g h121 147 j)).trans (by rw [← h121w]; exact pw_g_ne (by omega) : pw_g h121 147 j = pw_g h115 147 j)).trans (by rw [← h115w]; exact pw_g_ne (by omega) : pw_g h115 147 j = pw_g h112 147 j)
                              have hl136 : ∀ j : Nat, pw_g h131 157 j = pw_g h115 157 j := fun j => (((by rw [← h131w]; exact pw_g_ne (by omega) : pw_g h131 157 j = pw_g h127 157 j)).trans (by rw [← h127w]; exact pw_g_ne (by omega) : pw_g h127 157 j = pw_g h121 157 j)).trans (by rw [← h121w]; exact pw_g_ne (by omega) : pw_g h121 157 j = pw_g h115 157 j)
                              have hl137 : ∀ j : Nat, pw_g h112 157 j = pw_g gh53 157 j := fun j => (pw_Eg (c := 157) I53 h112E rfl rfl j : pw_g h112 157 j = pw_g gh53 157 j)
                              have hw0 : pw_g h115 157 (ix.toNat) = pw_g h112 161 (Int.toNat 0) := by rw [← h115w]; exact pw_g_eqA h112I rfl (by omega) (by omega) (by omega)
                              have hw1 : ∀ j : Nat, j ≠ ix.toNat → pw_g h115 157 j = pw_g h112 157 j := fun j hj => by rw [← h115w]; exact pw_g_ne (fun q => hj q.2.symm)
                              have hkc : pw_KC gh53 h131 (5 + ix) (pw_g gh53 125 32) := ⟨fun j hj => ⟨(hl134 _).trans (hqkeep.1 j hj).1, (hl135 _).trans (hqkeep.1 j hj).2⟩, fun j hj => ⟨(hl134 _).trans (hqkeep.2 j hj).1, (hl135 _).trans (hqkeep.2 j hj).2⟩⟩
                              exact ⟨h131I, h131F, (hp0.of hx53_3.1 hx53_3.2.1 hx53_3.2.2).wri (L := pw_g gh53 161 0) (by omega) (by omega) (hx53_2 (by omega)).1 (by omega) ((hl136 _).trans (hw0.trans (hl132 0))) (fun j hj => (hl136 j).trans ((hw1 j hj).trans (hl137 j))) hkc hl133, ⟨_, rfl, by omega, by omega⟩⟩
                            · intro hc138
                              change ¬ ((0 : Int) ≤ pw_g h121 161 (Int.toNat 2)) at hc138
                              refine pw_bip E (pc' := 151) rfl rfl (by decide) ?_
                              refine pw_goto E (pc' := 160) rfl (by decide) ?_
                              refine pw_ast0 h121I E (c := 159) (pc' := 161) rfl rfl rfl (by decide) rfl (by decide) (by omega) (by omega) rfl (by omega) (by omega) (by omega) (by omega) rfl ?_
                              intro h139I h139E
                              generalize h139w : pw_w h121 159 (ix.toNat) (pw_i 11) = h139 at h139I h139E ⊢
                              have h139F := h121F.tr (h139E.wk (W' := [125, 127, 128, 129, 146, 147, 157, 158, 159, 160, 161, 1002]) (by first | rfl | simp))
                              have hl140 : ∀ j : Nat, pw_g h139 161 j = pw_g gh53 161 j := fun j => ((((by rw [← h139w]; exact pw_g_ne (by omega) : pw_g h139 161 j = pw_g h121 161 j)).trans (by rw [← h121w]; exact pw_g_ne (by omega) : pw_g h121 161 j = pw_g h115 161 j)).trans (by rw [← h115w]; exact pw_g_ne (by omega) : pw_g h115 161 j = pw_g h112 161 j)).trans (pw_Eg (c := 161) I53 h112E rfl rfl j : pw_g h112 161 j = pw_g gh53 161 j)
                              have hr141 : pw_g h139 161 (Int.toNat 3) ≤ 10 := by rw [hl140]; exact (hx53_2 (by omega)).2.2.2
                              refine pw_ld E (pc' := 162) (st' := [.ref 141]) rfl (fun _ => rfl) ?_
                              refine pw_getR (b := 176) h139I E (c := 125) (k := 49) (pc' := 165) rfl rfl rfl rfl rfl rfl rfl ?_
                              refine pw_ld E (pc' := 166) (st' := [pw_i ix, .ref 176]) rfl (fun _ => rfl) ?_
                              refine pw_ld E (pc' := 167) (st' := [.ref 141, pw_i ix, .ref 176]) rfl (fun _ => rfl) ?_
                              refine pw_getR (b := 177) h139I E (c := 125) (k := 50) (pc' := 170) rfl rfl rfl rfl rfl rfl rfl ?_
                              refine pw_ld E (pc' := 171) (st' := [pw_i 3, .ref 177, pw_i ix, .ref 176]) rfl (fun _ => rfl) ?_
                              refine pw_ald2 h139I E (c := 161) (pc' := 172) rfl rfl rfl (by decide) rfl (by decide) (by omega) (by omega) rfl (fun hf142a hf142b => ?_)
                              refine pw_ast0 h139I E (c := 160) (pc' := 173) rfl rfl rfl (by decide) rfl (by decide) (by omega) (by omega) rfl (by omega) (by omega) (by omega) (by omega) rfl ?_
                              intro h143I h143E
                              generalize h143w : pw_w h139 160 (ix.toNat) (pw_i (pw_g h139 161 (Int.toNat 3))) = h143 at h143I h143E ⊢
                              have h143F := h139F.tr (h143E.wk (W' := [125, 127, 128, 129, 146, 147, 157, 158, 159, 160, 161, 1002]) (by first | rfl | simp))
                              refine pw_ld E (pc' := 174) (st' := [pw_i 0]) rfl (fun _ => rfl) ?_
                              refine pw_iret E rfl ?_
                              have hl144 : ∀ j : Nat, pw_g h112 161 j = pw_g gh53 161 j := fun j => (pw_Eg (c := 161) I53 h112E rfl rfl j : pw_g h112 161 j = pw_g gh53 161 j)
                              have hl145 : ∀ j : Nat, pw_g h143 145 j = pw_g gh53 145 j := fun j => (((((by rw [← h143w]; exact pw_g_ne (by omega) : pw_g h143 145 j = pw_g h139 145 j)).trans (by rw [← h139w]; exact pw_g_ne (by omega) : pw_g h139 145 j = pw_g h121 145 j)).trans (by rw [← h121w]; exact pw_g_ne (by omega) : pw_g h121 145 j = pw_g h115 145 j)).trans (by rw [← h115w]; exact pw_g_ne (by omega) : pw_g h115 145 j = pw_g h112 145 j)).trans (pw_Eg (c := 145) I53 h112E rfl rfl j : pw_g h112 145 j = pw_g gh53 145 j)
                              have hl146 : ∀ j : Nat, pw_g h143 146 j = pw_g h112 146 j := fun j => ((((by rw [← h143w]; exact pw_g_ne (by omega) : pw_g h143 146 j = pw_g h139 146 j)).trans (by rw [← h139w]; exact pw_g_ne (by omega) : pw_g h139 146 j = pw_g h121 146 j)).trans (by rw [← h121w]; exact pw_g_ne (by omega) : pw_g h121 146 j = pw_g h115 146 j)).trans (by rw [← h115w]; exact pw_g_ne (by omega) : pw_g h115 146 j = pw_g h112 146 j)
                              have hl147 : ∀ j : Nat, pw_g h143 147 j = pw_g h112 147 j := fun j => ((((by rw [← h143w]; exact pw_g_ne (by omega) : pw_g h143 147 j = pw_g h139 147 j)).trans (by rw [← h139w]; exact pw_g_ne (by omega) : pw_g h139 147 j = pw_g h121 147 j)).trans (by rw [← h121w]; exact pw_g_ne (by omega) : pw_g h121 147 j = pw_g h115 147 j)).trans (by rw [← h115w]; exact pw_g_ne (by omega) : pw_g h115 147 j = pw_g h112 147 j)
                              have hl148 : ∀ j : Nat, pw_g h143 157 j = pw_g h115 157 j := fun j => (((by rw [← h143w]; exact pw_g_ne (by omega) : pw_g h143 157 j = pw_g h139 157 j)).trans (by rw [← h139w]; exact pw_g_ne (by omega) : pw_g h139 157 j = pw_g h121 157 j)).trans (by rw [← h121w]; exact pw_g_ne (by omega) : pw_g h121 157 j = pw_g h115 157 j)
                              have hl149 : ∀ j : Nat, pw_g h112 157 j = pw_g gh53 157 j := fun j => (pw_Eg (c := 157) I53 h112E rfl rfl j : pw_g h112 157 j = pw_g gh53 157 j)
                              have hw0 : pw_g h115 157 (ix.toNat) = pw_g h112 161 (Int.toNat 0) := by rw [← h115w]; exact pw_g_eqA h112I rfl (by omega) (by omega) (by omega)
                              have hw1 : ∀ j : Nat, j ≠ ix.toNat → pw_g h115 157 j = pw_g h112 157 j := fun j hj => by rw [← h115w]; exact pw_g_ne (fun q => hj q.2.symm)
                              have hkc : pw_KC gh53 h143 (5 + ix) (pw_g gh53 125 32) := ⟨fun j hj => ⟨(hl146 _).trans (hqkeep.1 j hj).1, (hl147 _).trans (hqkeep.1 j hj).2⟩, fun j hj => ⟨(hl146 _).trans (hqkeep.2 j hj).1, (hl147 _).trans (hqkeep.2 j hj).2⟩⟩
                              exact ⟨h143I, h143F, (hp0.of hx53_3.1 hx53_3.2.1 hx53_3.2.2).wri (L := pw_g gh53 161 0) (by omega) (by omega) (hx53_2 (by omega)).1 (by omega) ((hl148 _).trans (hw0.trans (hl144 0))) (fun j hj => (hl148 j).trans ((hw1 j hj).trans (hl149 j))) hkc hl145, ⟨_, rfl, by omega, by omega⟩⟩
                          · intro hc150
                            change ¬ ((0 : Int) ≤ pw_g h115 161 (Int.toNat 1)) at hc150
                            refine pw_ld E (pc' := 125) (st' := [pw_i 0, pw_i ix, .ref 174]) rfl (fun _ => rfl) ?_
                            refine pw_goto E (pc' := 134) rfl (by decide) ?_
                            refine pw_ast0 h115I E (c := 158) (pc' := 135) rfl rfl rfl (by decide) rfl (by decide) (by omega) (by omega) rfl (by omega) (by omega) (by omega) (by omega) rfl ?_
                            intro h151I h151E
                            generalize h151w : pw_w h115 158 (ix.toNat) (pw_i 0) = h151 at h151I h151E ⊢
                            have h151F := h115F.tr (h151E.wk (W' := [125, 127, 128, 129, 146, 147, 157, 158, 159, 160, 161, 1002]) (by first | rfl | simp))
                            have hl152 : ∀ j : Nat, pw_g h151 161 j = pw_g gh53 161 j := fun j => (((by rw [← h151w]; exact pw_g_ne (by omega) : pw_g h151 161 j = pw_g h115 161 j)).trans (by rw [← h115w]; exact pw_g_ne (by omega) : pw_g h115 161 j = pw_g h112 161 j)).trans (pw_Eg (c := 161) I53 h112E rfl rfl j : pw_g h112 161 j = pw_g gh53 161 j)
                            have hr153 : pw_g h151 161 (Int.toNat 2) ≤ 11 := by rw [hl152]; exact (hx53_2 (by omega)).2.2.1
                            refine pw_ld E (pc' := 136) (st' := [.ref 141]) rfl (fun _ => rfl) ?_
                            refine pw_getR (b := 175) h151I E (c := 125) (k := 48) (pc' := 139) rfl rfl rfl rfl rfl rfl rfl ?_
                            refine pw_ld E (pc' := 140) (st' := [pw_i ix, .ref 175]) rfl (fun _ => rfl) ?_
                            refine pw_ld E (pc' := 141) (st' := [.ref 141, pw_i ix, .ref 175]) rfl (fun _ => rfl) ?_
                            refine pw_getR (b := 177) h151I E (c := 125) (k := 50) (pc' := 144) rfl rfl rfl rfl rfl rfl rfl ?_
                            refine pw_ld E (pc' := 145) (st' := [pw_i 2, .ref 177, pw_i ix, .ref 175]) rfl (fun _ => rfl) ?_
                            refine pw_ald2 h151I E (c := 161) (pc' := 146) rfl rfl rfl (by decide) rfl (by decide) (by omega) (by omega) rfl (fun hf154a hf154b => ?_)
                            refine pw_if E (pc' := 154) rfl (by decide) (by omega) (by omega) ?_ ?_
                            · intro hc155
                              change (0 : Int) ≤ pw_g h151 161 (Int.toNat 2) at hc155
                              refine pw_ld E (pc' := 155) (st' := [.ref 141, pw_i ix, .ref 175]) rfl (fun _ => rfl) ?_
                              refine pw_getR (b := 177) h151I E (c := 125) (k := 50) (pc' := 158) rfl rfl rfl rfl rfl rfl rfl ?_
                              refine pw_ld E (pc' := 159) (st' := [pw_i 2, .ref 177, pw_i ix, .ref 175]) rfl (fun _ => rfl) ?_
                              refine pw_ald2 h151I E (c := 161) (pc' := 160) rfl rfl rfl (by decide) rfl (by decide) (by omega) (by omega) rfl (fun hf156a hf156b => ?_)
                              refine pw_ast0 h151I E (c := 159) (pc' := 161) rfl rfl rfl (by decide) rfl (by decide) (by omega) (by omega) rfl (by omega) (by omega) (by omega) (by omega) rfl ?_
                              intro h157I h157E
                              generalize h157w : pw_w h151 159 (ix.toNat) (pw_i (pw_g h151 161 (Int.toNat 2))) = h157 at h157I h157E ⊢
                              have h157F := h151F.tr (h157E.wk (W' := [125, 127, 128, 129, 146, 147, 157, 158, 159, 160, 161, 1002]) (by first | rfl | simp))
                              have hl158 : ∀ j : Nat, pw_g h157 161 j = pw_g gh53 161 j := fun j => ((((by rw [← h157w]; exact pw_g_ne (by omega) : pw_g h157 161 j = pw_g h151 161 j)).trans (by rw [← h151w]; exact pw_g_ne (by omega) : pw_g h151 161 j = pw_g h115 161 j)).trans (by rw [← h115w]; exact pw_g_ne (by omega) : pw_g h115 161 j = pw_g h112 161 j)).trans (pw_Eg (c := 161) I53 h112E rfl rfl j : pw_g h112 161 j = pw_g gh53 161 j)
                              have hr159 : pw_g h157 161 (Int.toNat 3) ≤ 10 := by rw [hl158]; exact (hx53_2 (by omega)).2.2.2
                              refine pw_ld E (pc' := 162) (st' := [.ref 141]) rfl (fun _ => rfl) ?_
                              refine pw_getR (b := 176) h157I E (c := 125) (k := 49) (pc' := 165) rfl rfl rfl rfl rfl rfl rfl ?_
                              refine pw_ld E (pc' := 166) (st' := [pw_i ix, .ref 176]) rfl (fun _ => rfl) ?_
                              refine pw_ld E (pc' := 167) (st' := [.ref 141, pw_i ix, .ref 176]) rfl (fun _ => rfl) ?_
                              refine pw_getR (b := 177) h157I E (c := 125) (k := 50) (pc' := 170) rfl rfl rfl rfl rfl rfl rfl ?_
                              refine pw_ld E (pc' := 171) (st' := [pw_i 3, .ref 177, pw_i ix, .ref 176]) rfl (fun _ => rfl) ?_
                              refine pw_ald2 h157I E (c := 161) (pc' := 172) rfl rfl rfl (by decide) rfl (by decide) (by omega) (by omega) rfl (fun hf160a hf160b => ?_)
                              refine pw_ast0 h157I E (c := 160) (pc' := 173) rfl rfl rfl (by decide) rfl (by decide) (by omega) (by omega) rfl (by omega) (by omega) (by omega) (by omega) rfl ?_
                              intro h161I h161E
                              generalize h161w : pw_w h157 160 (ix.toNat) (pw_i (pw_g h157 161 (Int.toNat 3))) = h161 at h161I h161E ⊢
                              have h161F := h157F.tr (h161E.wk (W' := [125, 127, 128, 129, 146, 147, 157, 158, 159, 160, 161, 1002]) (by first | rfl | simp))
                              refine pw_ld E (pc' := 174) (st' := [pw_i 0]) rfl (fun _ => rfl) ?_
                              refine pw_iret E rfl ?_
                              have hl162 : ∀ j : Nat, pw_g h112 161 j = pw_g gh53 161 j := fun j => (pw_Eg (c := 161) I53 h112E rfl rfl j : pw_g h112 161 j = pw_g gh53 161 j)
                              have hl163 : ∀ j : Nat, pw_g h161 145 j = pw_g gh53 145 j := fun j => (((((by rw [← h161w]; exact pw_g_ne (by omega) : pw_g h161 145 j = pw_g h157 145 j)).trans (by rw [← h157w]; exact pw_g_ne (by omega) : pw_g h157 145 j = pw_g h151 145 j)).trans (by rw [← h151w]; exact pw_g_ne (by omega) : pw_g h151 145 j = pw_g h115 145 j)).trans (by rw [← h115w]; exact pw_g_ne (by omega) : pw_g h115 145 j = pw_g h112 145 j)).trans (pw_Eg (c := 145) I53 h112E rfl rfl j : pw_g h112 145 j = pw_g gh53 145 j)
                              have hl164 : ∀ j : Nat, pw_g h161 146 j = pw_g h112 146 j := fun j => ((((by rw [← h161w]; exact pw_g_ne (by omega) : pw_g h161 146 j = pw_g h157 146 j)).trans (by rw [← h157w]; exact pw_g_ne (by omega) : pw_g h157 146 j = pw_g h151 146 j)).trans (by rw [← h151w]; exact pw_g_ne (by omega) : pw_g h151 146 j = pw_g h115 146 j)).trans (by rw [← h115w]; exact pw_g_ne (by omega) : pw_g h115 146 j = pw_g h112 146 j)
                              have hl165 : ∀ j : Nat, pw_g h161 147 j = pw_g h112 147 j := fun j => ((((by rw [← h161w]; exact pw_g_ne (by omega) : pw_g h161 147 j = pw_g h157 147 j)).trans (by rw [← h157w]; exact pw_g_ne (by omega) : pw_g h157 147 j = pw_g h151 147 j)).trans (by rw [← h151w]; exact pw_g_ne (by omega) : pw_g h151 147 j = pw_g h115 147 j)).trans (by rw [← h115w]; exact pw_g_ne (by omega) : pw_g h115 147 j = pw_g h112 147 j)
                              have hl166 : ∀ j : Nat, pw_g h161 157 j = pw_g h115 157 j := fun j => (((by rw [← h161w]; exact pw_g_ne (by omega) : pw_g h161 157 j = pw_g h157 157 j)).trans (by rw [← h157w]; exact pw_g_ne (by omega) : pw_g h157 157 j = pw_g h151 157 j)).trans (by rw [← h151w]; exact pw_g_ne (by omega) : pw_g h151 157 j = pw_g h115 157 j)
                              have hl167 : ∀ j : Nat, pw_g h112 157 j = pw_g gh53 157 j := fun j => (pw_Eg (c := 157) I53 h112E rfl rfl j : pw_g h112 157 j = pw_g gh53 157 j)
                              have hw0 : pw_g h115 157 (ix.toNat) = pw_g h112 161 (Int.toNat 0) := by rw [← h115w]; exact pw_g_eqA h112I rfl (by omega) (by omega) (by omega)
                              have hw1 : ∀ j : Nat, j ≠ ix.toNat → pw_g h115 157 j = pw_g h112 157 j := fun j hj => by rw [← h115w]; exact pw_g_ne (fun q => hj q.2.symm)
                              have hkc : pw_KC gh53 h161 (5 + ix) (pw_g gh53 125 32) := ⟨fun j hj => ⟨(hl164 _).trans (hqkeep.1 j hj).1, (hl165 _).trans (hqkeep.1 j hj).2⟩, fun j hj => ⟨(hl164 _).trans (hqkeep.2 j hj).1, (hl165 _).trans (hqkeep.2 j hj).2⟩⟩
                              exact ⟨h161I, h161F, (hp0.of hx53_3.1 hx53_3.2.1 hx53_3.2.2).wri (L := pw_g gh53 161 0) (by omega) (by omega) (hx53_2 (by omega)).1 (by omega) ((hl166 _).trans (hw0.trans (hl162 0))) (fun j hj => (hl166 j).trans ((hw1 j hj).trans (hl167 j))) hkc hl163, ⟨_, rfl, by omega, by omega⟩⟩
                            · intro hc168
                              change ¬ ((0 : Int) ≤ pw_g h151 161 (Int.toNat 2)) at hc168
                              refine pw_bip E (pc' := 151) rfl rfl (by decide) ?_
                              refine pw_goto E (pc' := 160) rfl (by decide) ?_
                              refine pw_ast0 h151I E (c := 159) (pc' := 161) rfl rfl rfl (by decide) rfl (by decide) (by omega) (by omega) rfl (by omega) (by omega) (by omega) (by omega) rfl ?_
                              intro h169I h169E
                              generalize h169w : pw_w h151 159 (ix.toNat) (pw_i 11) = h169 at h169I h169E ⊢
                              have h169F := h151F.tr (h169E.wk (W' := [125, 127, 128, 129, 146, 147, 157, 158, 159, 160, 161, 1002]) (by first | rfl | simp))
                              have hl170 : ∀ j : Nat, pw_g h169 161 j = pw_g gh53 161 j := fun j => ((((by rw [← h169w]; exact pw_g_ne (by omega) : pw_g h169 161 j = pw_g h151 161 j)).trans (by rw [← h151w]; exact pw_g_ne (by omega) : pw_g h151 161 j = pw_g h115 161 j)).trans (by rw [← h115w]; exact pw_g_ne (by omega) : pw_g h115 161 j = pw_g h112 161 j)).trans (pw_Eg (c := 161) I53 h112E rfl rfl j : pw_g h112 161 j = pw_g gh53 161 j)
                              have hr171 : pw_g h169 161 (Int.toNat 3) ≤ 10 := by rw [hl170]; exact (hx53_2 (by omega)).2.2.2
                              refine pw_ld E (pc' := 162) (st' := [.ref 141]) rfl (fun _ => rfl) ?_
                              refine pw_getR (b := 176) h169I E (c := 125) (k := 49) (pc' := 165) rfl rfl rfl rfl rfl rfl rfl ?_
                              refine pw_ld E (pc' := 166) (st' := [pw_i ix, .ref 176]) rfl (fun _ => rfl) ?_
                              refine pw_ld E (pc' := 167) (st' := [.ref 141, pw_i ix, .ref 176]) rfl (fun _ => rfl) ?_
                              refine pw_getR (b := 177) h169I E (c := 125) (k := 50) (pc' := 170) rfl rfl rfl rfl rfl rfl rfl ?_
                              refine pw_ld E (pc' := 171) (st' := [pw_i 3, .ref 177, pw_i ix, .ref 176]) rfl (fun _ => rfl) ?_
                              refine pw_ald2 h169I E (c := 161) (pc' := 172) rfl rfl rfl (by decide) rfl (by decide) (by omega) (by omega) rfl (fun hf172a hf172b => ?_)
                              refine pw_ast0 h169I E (c := 160) (pc' := 173) rfl rfl rfl (by decide) rfl (by decide) (by omega) (by omega) rfl (by omega) (by omega) (by omega) (by omega) rfl ?_
                              intro h173I h173E
                              generalize h173w : pw_w h169 160 (ix.toNat) (pw_i (pw_g h169 161 (Int.toNat 3))) = h173 at h173I h173E ⊢
                              have h173F := h169F.tr (h173E.wk (W' := [125, 127, 128, 129, 146, 147, 157, 158, 159, 160, 161, 1002]) (by first | rfl | simp))
                              refine pw_ld E (pc' := 174) (st' := [pw_i 0]) rfl (fun _ => rfl) ?_
                              refine pw_iret E rfl ?_
                              have hl174 : ∀ j : Nat, pw_g h112 161 j = pw_g gh53 161 j := fun j => (pw_Eg (c := 161) I53 h112E rfl rfl j : pw_g h112 161 j = pw_g gh53 161 j)
                              have hl175 : ∀ j : Nat, pw_g h173 145 j = pw_g gh53 145 j := fun j => (((((by rw [← h173w]; exact pw_g_ne (by omega) : pw_g h173 145 j = pw_g h169 145 j)).trans (by rw [← h169w]; exact pw_g_ne (by omega) : pw_g h169 145 j = pw_g h151 145 j)).trans (by rw [← h151w]; exact pw_g_ne (by omega) : pw_g h151 145 j = pw_g h115 145 j)).trans (by rw [← h115w]; exact pw_g_ne (by omega) : pw_g h115 145 j = pw_g h112 145 j)).trans (pw_Eg (c := 145) I53 h112E rfl rfl j : pw_g h112 145 j = pw_g gh53 145 j)
                              have hl176 : ∀ j : Nat, pw_g h173 146 j = pw_g h112 146 j := fun j => ((((by rw [← h173w]; exact pw_g_ne (by omega) : pw_g h173 146 j = pw_g h169 146 j)).trans (by rw [← h169w]; exact pw_g_ne (by omega) : pw_g h169 146 j = pw_g h151 146 j)).trans (by rw [← h151w]; exact pw_g_ne (by omega) : pw_g h151 146 j = pw_g h115 146 j)).trans (by rw [← h115w]; exact pw_g_ne (by omega) : pw_g h115 146 j = pw_g h112 146 j)
                              have hl177 : ∀ j : Nat, pw_g h173 147 j = pw_g h112 147 j := fun j => ((((by rw [← h173w]; exact pw_g_ne (by omega) : pw_g h173 147 j = pw_g h169 147 j)).trans (by rw [← h169w]; exact pw_g_ne (by omega) : pw_g h169 147 j = pw_g h151 147 j)).trans (by rw [← h151w]; exact pw_g_ne (by omega) : pw_g h151 147 j = pw_g h115 147 j)).trans (by rw [← h115w]; exact pw_g_ne (by omega) : pw_g h115 147 j = pw_g h112 147 j)
                              have hl178 : ∀ j : Nat, pw_g h173 157 j = pw_g h115 157 j := fun j => (((by rw [← h173w]; exact pw_g_ne (by omega) : pw_g h173 157 j = pw_g h169 157 j)).trans (by rw [← h169w]; exact pw_g_ne (by omega) : pw_g h169 157 j = pw_g h151 157 j)).trans (by rw [← h151w]; exact pw_g_ne (by omega) : pw_g h151 157 j = pw_g h115 157 j)
                              have hl179 : ∀ j : Nat, pw_g h112 157 j = pw_g gh53 157 j := fun j => (pw_Eg (c := 157) I53 h112E rfl rfl j : pw_g h112 157 j = pw_g gh53 157 j)
                              have hw0 : pw_g h115 157 (ix.toNat) = pw_g h112 161 (Int.toNat 0) := by rw [← h115w]; exact pw_g_eqA h112I rfl (by omega) (by omega) (by omega)
                              have hw1 : ∀ j : Nat, j ≠ ix.toNat → pw_g h115 157 j = pw_g h112 157 j := fun j hj => by rw [← h115w]; exact pw_g_ne (fun q => hj q.2.symm)
                              have hkc : pw_KC gh53 h173 (5 + ix) (pw_g gh53 125 32) := ⟨fun j hj => ⟨(hl176 _).trans (hqkeep.1 j hj).1, (hl177 _).trans (hqkeep.1 j hj).2⟩, fun j hj => ⟨(hl176 _).trans (hqkeep.2 j hj).1, (hl177 _).trans (hqkeep.2 j hj).2⟩⟩
                              exact ⟨h173I, h173F, (hp0.of hx53_3.1 hx53_3.2.1 hx53_3.2.2).wri (L := pw_g gh53 161 0) (by omega) (by omega) (hx53_2 (by omega)).1 (by omega) ((hl178 _).trans (hw0.trans (hl174 0))) (fun j hj => (hl178 j).trans ((hw1 j hj).trans (hl179 j))) hkc hl175, ⟨_, rfl, by omega, by omega⟩⟩
                        · intro hc180
                          change ¬ (pw_g gh53 125 8 ≤ (0 : Int)) at hc180
                          exfalso; omega
                      · intro hc181
                        change ¬ (pw_g gh53 127 ((pw_g gh53 125 7).toNat) = (0 : Int)) at hc181
                        have hA53 : pw_g gh53 125 7 ≤ n ∧ 0 ≤ pw_g gh53 125 8 ∧ 0 ≤ pw_g gh53 125 7 ∧ 0 ≤ pw_g gh53 125 32 := hx53_0.2.2
                        have hn1 : n ≤ 1000 := hx53_0.1
                        refine pw_ld E (pc' := 73) (st' := [.ref 141]) rfl (fun _ => rfl) ?_
                        obtain ⟨f182l, f182h, -⟩ := pw_obj (c := 125) I53 rfl
                        refine pw_call (m' := 279) (As := [.ref 141]) (rest := []) (ls'' := [some (.ref 141), none, none]) (Nat.le_trans (by decide) hd) E rfl (fun _ => pw_iV rfl rfl rfl rfl (pw_cellI f182h rfl)) (rfl : pm_ent 279 = some (1, 3, 12, 4, pmc_279)) rfl rfl (cm_279 (pw_dp hd (by decide)) I53 hx53_0 (by omega) hx53_4 hx53_2) ?_
                        rintro h183 v184 ⟨h183I, h183E, ⟨rA, rQ, rL⟩, rfl⟩
                        refine ⟨_, rfl, ?_⟩
                        have h183F := E53.tr (h183E.wk (W' := [125, 127, 128, 129, 146, 147, 157, 158, 159, 160, 161, 1002]) (by first | rfl | simp))
                        have rf : pw_g h183 125 7 ≤ n ∧ 0 ≤ pw_g h183 125 8 ∧ 0 ≤ pw_g h183 125 7 ∧ 0 ≤ pw_g h183 125 32 := rA.2.2
                        have rq : pw_g gh53 125 7 - pw_g gh53 125 32 + 0 ≤ pw_g h183 125 7 - pw_g h183 125 32 ∧ pw_g gh53 125 7 ≤ pw_g h183 125 7 := ⟨rQ.2.2.2.1, rQ.2.1⟩
                        have rp : pw_g h183 125 8 = 0 → pw_g gh53 125 7 < pw_g h183 125 7 := fun q => (rL q).2
                        have rV : pw_NV n h183 := pw_NV.E I53 h183E hx53_4 rfl
                        have rO : pw_O gh53 h183 := pw_O.q (by omega) rQ (fun j _ => pw_Eg (c := 145) I53 h183E rfl rfl j) (pw_Eg (c := 157) I53 h183E rfl rfl)
                        show pw X d h183 277 76 [some (.ref 141), some (pw_i ix), some (pw_i ((((0 + 1) + 1) + 1) + 1))] [] _
                        refine pw_goto E (pc' := 53) rfl (by decide) ?_
                        exact ih53 _ (by omega)  h183 h183I h183F  rA (by omega) (fun q => (rL q).1) (hx53_3.tr rO) rV rfl
                have he185 : pw_g h23 125 7 = pw_g h20 125 7 := by rw [← h23w]; exact pw_g_ne (by omega)
                have he186 : pw_g h20 125 7 = pw_g h17 125 7 := by rw [← h20w]; exact pw_g_ne (by omega)
                have he187 : pw_g h17 125 7 = pw_g h14 125 7 := by rw [← h17w]; exact pw_g_ne (by omega)
                have he188 : pw_g h14 125 7 = pw_g h11 125 7 := by rw [← h14w]; exact pw_g_ne (by omega)
                have he189 : pw_g h11 125 7 = pw_g h10 125 7 := by rw [← h11w]; exact pw_g_ne (by omega)
                have he190 : pw_g h10 125 7 = pw_g h8 125 7 := by rw [← h10w]; exact pw_g_ne (by omega)
                have he191 : pw_g h23 125 8 = pw_g h20 125 8 := by rw [← h23w]; exact pw_g_ne (by omega)
                have he192 : pw_g h20 125 8 = pw_g h17 125 8 := by rw [← h20w]; exact pw_g_ne (by omega)
                have he193 : pw_g h17 125 8 = pw_g h14 125 8 := by rw [← h17w]; exact pw_g_ne (by omega)
                have he194 : pw_g h14 125 8 = pw_g h11 125 8 := by rw [← h14w]; exact pw_g_ne (by omega)
                have he195 : pw_g h11 125 8 = pw_g h10 125 8 := by rw [← h11w]; exact pw_g_ne (by omega)
                have he196 : pw_g h10 125 8 = pw_g h8 125 8 := by rw [← h10w]; exact pw_g_ne (by omega)
                have he197 : pw_g h23 125 32 = pw_g h20 125 32 := by rw [← h23w]; exact pw_g_ne (by omega)
                have he198 : pw_g h20 125 32 = pw_g h17 125 32 := by rw [← h20w]; exact pw_g_ne (by omega)
                have he199 : pw_g h17 125 32 = pw_g h14 125 32 := by rw [← h17w]; exact pw_g_ne (by omega)
                have he200 : pw_g h14 125 32 = pw_g h11 125 32 := by rw [← h14w]; exact pw_g_ne (by omega)
                have he201 : pw_g h11 125 32 = pw_g h10 125 32 := by rw [← h11w]; exact pw_g_ne (by omega)
                have he202 : pw_g h10 125 32 = 0 := by rw [← h10w]; exact pw_g_eq (c := 125) (k := 32) h8I rfl rfl (by omega) (by omega)
                exact L53 _  h23 h23I h23F  bA (by omega) (fun _ => bL) bO bV rfl
              · intro hc203
                change ¬ ((4 : Int) ≤ (((0 + 1) + 1) + 1) + 1) at hc203
                exfalso; omega
    · intro hc204
      change ¬ (x4 ≠ (0 : Int)) at hc204
      exfalso; omega
  · skip
    refine pw_if E (pc' := 19) rfl (by decide) (by omega) (by omega) ?_ ?_
    · intro hc206
      change x4 ≠ (0 : Int) at hc206
      exfalso; omega
    · intro hc207
      change ¬ (x4 ≠ (0 : Int)) at hc207
      refine pw_ld E (pc' := 13) (st' := [.ref 141]) rfl (fun _ => rfl) ?_
      refine pw_ld E (pc' := 14) (st' := [pw_i 0, .ref 141]) rfl (fun _ => rfl) ?_
      refine pw_putP h1I E (k := 2) (pc' := 17) rfl rfl rfl rfl (by omega) (by omega) (by omega) (by omega) rfl rfl ?_
      intro h208I h208E
      generalize h208w : pw_w h1 125 2 (pw_i 0) = h208 at h208I h208E ⊢
      have h208F := h1F.tr (h208E.wk (W' := [125, 127, 128, 129, 146, 147, 157, 158, 159, 160, 161, 1002]) (by first | rfl | simp))
      refine pw_ld E (pc' := 18) (st' := [pw_i ((-1))]) rfl (fun _ => rfl) ?_
      refine pw_iret E rfl ?_
      have hl209 : ∀ j : Nat, pw_g h208 145 j = pw_g h 145 j := fun j => ((by rw [← h208w]; exact pw_g_ne (by omega) : pw_g h208 145 j = pw_g h1 145 j)).trans (by rw [← h1w]; exact pw_g_ne (by omega) : pw_g h1 145 j = pw_g h 145 j)
      have hl210 : ∀ j : Nat, pw_g h208 146 j = pw_g h 146 j := fun j => ((by rw [← h208w]; exact pw_g_ne (by omega) : pw_g h208 146 j = pw_g h1 146 j)).trans (by rw [← h1w]; exact pw_g_ne (by omega) : pw_g h1 146 j = pw_g h 146 j)
      have hl211 : ∀ j : Nat, pw_g h208 147 j = pw_g h 147 j := fun j => ((by rw [← h208w]; exact pw_g_ne (by omega) : pw_g h208 147 j = pw_g h1 147 j)).trans (by rw [← h1w]; exact pw_g_ne (by omega) : pw_g h1 147 j = pw_g h 147 j)
      have hl212 : ∀ j : Nat, pw_g h208 157 j = pw_g h 157 j := fun j => ((by rw [← h208w]; exact pw_g_ne (by omega) : pw_g h208 157 j = pw_g h1 157 j)).trans (by rw [← h1w]; exact pw_g_ne (by omega) : pw_g h1 157 j = pw_g h 157 j)
      exact ⟨h208I, h208F, hp0.cg hl209 hl210 hl211 hl212, ⟨_, rfl, by omega, by omega⟩⟩
end
section
/-! the model (printed by wip/tool/mall.py) -/
/-! exact bits, exact counts of kitchens -/
def pw_sr (a b : Int) : Int := (Int32.ofInt a >>> (Int32.ofInt b &&& 31)).toInt
def pw_an (a b : Int) : Int := (Int32.ofInt a &&& Int32.ofInt b).toInt
def pw_p2 (a : Int) : Int := ((2 ^ a.toNat : Nat) : Int)
def pw_bt (s : Int) : Nat → Int
  | 0 => 0
  | k + 1 => pw_bt s k + pw_an (pw_sr s k) 1
theorem pw_i32r (x : Int32) : -2147483648 ≤ x.toInt ∧ x.toInt ≤ 2147483647 := by
  have h1 := x.le_toInt
  have h2 := x.toInt_lt
  constructor <;> omega
theorem pw_sr_r (a b : Int) : -2147483648 ≤ pw_sr a b ∧ pw_sr a b ≤ 2147483647 := pw_i32r _
theorem pw_and1 (x : Int32) : 0 ≤ (x &&& 1).toInt ∧ (x &&& 1).toInt ≤ 1 := by
  obtain ⟨j, hj, e⟩ := pk_andE x (m := 1) 1 rfl
  rw [e]
  rcases (by omega : j = 0 ∨ j = 1) with rfl | rfl <;> decide
theorem pw_an_r (a : Int) : 0 ≤ pw_an a 1 ∧ pw_an a 1 ≤ 1 := pw_and1 _
theorem pw_p2_r {a : Int} (h1 : 0 ≤ a) (h2 : a ≤ 14) : 1 ≤ pw_p2 a ∧ pw_p2 a ≤ 16384 := by
  unfold pw_p2
  have hp : (2 : Nat) ^ a.toNat ≤ 2 ^ 14 := Nat.pow_le_pow_right (by decide) (by omega)
  have hp1 : 1 ≤ (2 : Nat) ^ a.toNat := Nat.one_le_two_pow
  have : (2 : Nat) ^ 14 = 16384 := by decide
  omega
theorem pw_p2_le {a b : Int} (h2 : a ≤ b) : pw_p2 a ≤ pw_p2 b := by
  unfold pw_p2
  have hp : (2 : Nat) ^ a.toNat ≤ 2 ^ b.toNat := Nat.pow_le_pow_right (by decide) (by omega)
  omega
theorem pw_btS {s k : Int} (h : 0 ≤ k) : pw_bt s (k + 1).toNat = pw_bt s k.toNat + pw_an (pw_sr s k) 1 := by
  rw [show (k + 1).toNat = k.toNat + 1 by omega]
  show pw_bt s k.toNat + pw_an (pw_sr s (k.toNat : Int)) 1 = _
  rw [show (k.toNat : Int) = k by omega]
theorem pw_bt_d : ∀ q : Fin 15, ∀ n : Fin 15, q.val ≤ n.val → pw_bt (pw_p2 (q.val : Int) - 1) n.val = (q.val : Int) := by decide +kernel
theorem pw_bt_p {q n : Int} (h0 : 0 ≤ q) (h1 : q ≤ n) (h2 : n ≤ 14) : pw_bt (pw_p2 q - 1) n.toNat = q := by
  have := pw_bt_d ⟨q.toNat, by omega⟩ ⟨n.toNat, by omega⟩ (by show q.toNat ≤ n.toNat; omega)
  dsimp only at this
  rw [show ((q.toNat : Nat) : Int) = q by omega] at this
  exact this
def pw_cd (h : pm_H) (k b e : Int) : Int := if pw_g h 131 k.toNat ≠ 0 ∧ pw_g h 138 (12 * k + b).toNat ≠ 0 ∧ pw_g h 138 (12 * k + e).toNat ≠ 0 then 1 else 0
def pw_c0 (h : pm_H) (b e : Int) : Nat → Int
  | 0 => 0
  | k + 1 => pw_c0 h b e k + (if pw_g h 132 k = 0 then pw_cd h (k : Int) b e else 0)
def pw_c1 (h : pm_H) (b e : Int) : Nat → Int
  | 0 => 0
  | k + 1 => pw_c1 h b e k + (if pw_g h 132 k = 0 then 0 else pw_cd h (k : Int) b e)
theorem pw_cd_r (h : pm_H) (k b e : Int) : 0 ≤ pw_cd h k b e ∧ pw_cd h k b e ≤ 1 := by
  unfold pw_cd
  split <;> omega
theorem pw_cS {h : pm_H} {b e k : Int} (hk : 0 ≤ k) : (pw_g h 132 k.toNat = 0 → pw_c0 h b e (k + 1).toNat = pw_c0 h b e k.toNat + pw_cd h k b e ∧ pw_c1 h b e (k + 1).toNat = pw_c1 h b e k.toNat) ∧ (pw_g h 132 k.toNat ≠ 0 → pw_c0 h b e (k + 1).toNat = pw_c0 h b e k.toNat ∧ pw_c1 h b e (k + 1).toNat = pw_c1 h b e k.toNat + pw_cd h k b e) := by
  rw [show (k + 1).toNat = k.toNat + 1 by omega]
  have e0 : pw_c0 h b e (k.toNat + 1) = pw_c0 h b e k.toNat + (if pw_g h 132 k.toNat = 0 then pw_cd h ((k.toNat : Nat) : Int) b e else 0) := rfl
  have e1 : pw_c1 h b e (k.toNat + 1) = pw_c1 h b e k.toNat + (if pw_g h 132 k.toNat = 0 then 0 else pw_cd h ((k.toNat : Nat) : Int) b e) := rfl
  rw [show ((k.toNat : Nat) : Int) = k by omega] at e0 e1
  rw [e0, e1]
  constructor
  · intro q
    rw [if_pos q, if_pos q]
    omega
  · intro q
    rw [if_neg q, if_neg q]
    omega
theorem pw_c_le {h : pm_H} {b e : Int} : ∀ n k : Nat, pw_c0 h b e k ≤ pw_c0 h b e (k + n) ∧ pw_c1 h b e k ≤ pw_c1 h b e (k + n) := by
  intro n
  induction n with
  | zero => intro k; constructor <;> exact Int.le_refl _
  | succ n ih =>
    intro k
    obtain ⟨h1, h2⟩ := ih k
    have r := pw_cd_r h ((k + n : Nat) : Int) b e
    show pw_c0 h b e k ≤ pw_c0 h b e (k + n) + (if pw_g h 132 (k + n) = 0 then pw_cd h ((k + n : Nat) : Int) b e else 0) ∧ pw_c1 h b e k ≤ pw_c1 h b e (k + n) + (if pw_g h 132 (k + n) = 0 then 0 else pw_cd h ((k + n : Nat) : Int) b e)
    split <;> omega
theorem pw_c_top {h : pm_H} {b e k : Int} (h1 : 0 ≤ k) (h2 : k ≤ 24) : pw_c0 h b e k.toNat ≤ pw_c0 h b e 24 ∧ pw_c1 h b e k.toNat ≤ pw_c1 h b e 24 := by
  have := pw_c_le (h := h) (b := b) (e := e) (24 - k.toNat) k.toNat
  rw [show k.toNat + (24 - k.toNat) = 24 by omega] at this
  exact this
theorem pw_cdE {W : List Nat} {h h' : pm_H} (I : pw_I h) (E : pw_E W h h') (hn : (W.contains 131 || (W.contains 132 || W.contains 138)) = false) (k b e : Int) : pw_cd h' k b e = pw_cd h k b e ∧ pw_g h' 132 k.toNat = pw_g h 132 k.toNat := by
  obtain ⟨h1, h2⟩ := Bool.or_eq_false_iff.mp hn
  obtain ⟨h2, h3⟩ := Bool.or_eq_false_iff.mp h2
  unfold pw_cd
  rw [pw_Eg (c := 131) I E rfl h1, pw_Eg (c := 138) I E rfl h3, pw_Eg (c := 138) I E rfl h3, pw_Eg (c := 132) I E rfl h2]
  exact ⟨rfl, rfl⟩
section Ph
variable {X : List (Nat × List Value)} {d : Nat} {h : pm_H} {m pc pc' len na nl own rt : Nat} {C : pm_T (Instr × Nat)} {ls : pm_L} {r : List Value} {Q : pm_H → (Option Value ⊕ Unit) → Prop} {i : Instr}
theorem pw_iiE {f : Int32 → Int32 → Int32} {a b c : Int} (he : pm_ent m = some (na, nl, own, rt, C)) (hq : pm_get C pc = some (i, len)) (hs : ∀ ih : pm_I, pm_dsp X i ih d h m own pc len ls (pw_i b :: pw_i a :: r) = ih d h m pc' ls (.int (f (Int32.ofInt a) (Int32.ofInt b)) :: r)) (hc : (f (Int32.ofInt a) (Int32.ofInt b)).toInt = c) (H : pw X d h m pc' ls (pw_i c :: r) Q) : pw X d h m pc ls (pw_i b :: pw_i a :: r) Q := by
  have e : pw_i c = .int (f (Int32.ofInt a) (Int32.ofInt b)) := by
    unfold pw_i
    rw [← hc, Int32.ofInt_toInt]
  rw [e] at H
  exact pw_ld he hq hs H
theorem pw_shlE {b : Int} (he : pm_ent m = some (na, nl, own, rt, C)) (hq : pm_get C pc = some (.ishl, len)) (hc : pc + len = pc') (h1 : 0 ≤ b) (h2 : b ≤ 14) (H : pw X d h m pc' ls (pw_i (pw_p2 b) :: r) Q) : pw X d h m pc ls (pw_i b :: pw_i 1 :: r) Q := by
  subst hc
  obtain ⟨k, rfl⟩ := Int.eq_ofNat_of_zero_le h1
  refine pw_ld he hq (st' := pw_i (pw_p2 (k : Int)) :: r) (pc' := pc + len) (fun ih => ?_) H
  have e := pw_sh1 k (by omega)
  show pm_fn (pc + len) (fun q => ih d h m q ls (.int (Int32.ofInt 1 <<< (Int32.ofInt (k : Int) &&& 31)) :: r)) = _
  rw [e, pm_fn_eq]
  rfl
end Ph
theorem pw_cE {W : List Nat} {h h' : pm_H} (I : pw_I h) (E : pw_E W h h') (hn : (W.contains 131 || (W.contains 132 || W.contains 138)) = false) (b e : Int) : ∀ n : Nat, pw_c0 h' b e n = pw_c0 h b e n ∧ pw_c1 h' b e n = pw_c1 h b e n := by
  intro n
  induction n with
  | zero => exact ⟨rfl, rfl⟩
  | succ n ih =>
    have q := pw_cdE I E hn (n : Int) b e
    rw [show ((n : Nat) : Int).toNat = n by omega] at q
    have e0 : pw_c0 h' b e (n + 1) = pw_c0 h' b e n + (if pw_g h' 132 n = 0 then pw_cd h' (n : Int) b e else 0) := rfl
    have e1 : pw_c1 h' b e (n + 1) = pw_c1 h' b e n + (if pw_g h' 132 n = 0 then 0 else pw_cd h' (n : Int) b e) := rfl
    rw [e0, e1, ih.1, ih.2, q.1, q.2]
    exact ⟨rfl, rfl⟩
end
