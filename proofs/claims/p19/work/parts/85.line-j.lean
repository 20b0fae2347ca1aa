section
/-! the model (printed by wip/tool/mall.py) -/
set_option maxHeartbeats 4000000 in
theorem cm_243 {X : List (Nat × List Value)} {d : Nat} {h : pm_H} (hd : 33 ≤ d) (I : pw_I h) {n : Nat} (A : pw_A n h) (hs : pw_g h 125 32 ≤ pw_g h 125 7) (hL : pw_g h 125 8 = 0 → pw_Ls h)  : pw X d h 243 0 [some (.ref 141), none, none] [] (fun h' v => pw_I h' ∧ pw_E [125, 145, 146, 147] h h' ∧ (pw_A n h' ∧ pw_Q 0 h h' ∧ (pw_g h' 125 8 = 0 → pw_Ls h' ∧ pw_g h 125 7 < pw_g h' 125 7) ∧ ∀ j : Nat, j < 16 → pw_g h' 145 j = pw_g h 145 j) ∧ (v = .inl none)) := by
  have E : pm_ent 243 = some (1, 3, 12, 4, pmc_243) := rfl
  have E0 : pw_E [125, 145, 146, 147] h h := pw_E.rf _ _
  have R0 : pw_R 0 0 0 h h := pw_R.rf A.2.2.2.2.2
  have hn1 : n ≤ 1000 := A.1
  have hA1 : pw_g h 125 7 ≤ n ∧ 0 ≤ pw_g h 125 8 ∧ 0 ≤ pw_g h 125 7 ∧ 0 ≤ pw_g h 125 32 := A.2.2
  refine pw_ld E (pc' := 1) (st' := [pw_i ((-1))]) rfl (fun _ => rfl) ?_
  refine pw_istn E (pc' := 2) (ls' := [some (.ref 141), some (pw_i ((-1))), none]) rfl rfl rfl rfl ?_
  refine pw_ld E (pc' := 3) (st' := [pw_i 0]) rfl (fun _ => rfl) ?_
  refine pw_istn E (pc' := 4) (ls' := [some (.ref 141), some (pw_i ((-1))), some (pw_i 0)]) rfl rfl rfl rfl ?_
  have L4 : ∀ (n4 : Nat) (k4_1 : Int) (k4_2 : Int), (-1) ≤ k4_1 → k4_1 ≤ 3 → 0 ≤ k4_2 → k4_2 ≤ 4 → k4_1 < 0 ∨ (pw_g h 125 8 = 0 ∧ pw_g h 127 (pw_g h 125 7).toNat = 1) → (4 - k4_2).toNat = n4 → pw X d h 243 4 [some (.ref 141), some (pw_i k4_1), some (pw_i k4_2)] [] (fun h' v => pw_I h' ∧ pw_E [125, 145, 146, 147] h h' ∧ (pw_A n h' ∧ pw_Q 0 h h' ∧ (pw_g h' 125 8 = 0 → pw_Ls h' ∧ pw_g h 125 7 < pw_g h' 125 7) ∧ ∀ j : Nat, j < 16 → pw_g h' 145 j = pw_g h 145 j) ∧ (v = .inl none)) := by
    intro n4
    induction n4 using Nat.strongRecOn with
    | ind n4 ih4 =>
      intro k4_1 k4_2 k4_1a k4_1b k4_2a k4_2b hx4_0 hm4
      refine pw_ld E (pc' := 5) (st' := [pw_i k4_2]) rfl (fun _ => rfl) ?_
      refine pw_ld E (pc' := 6) (st' := [pw_i 3, pw_i k4_2]) rfl (fun _ => rfl) ?_
      refine pw_if2 E (pc' := 29) rfl (by decide) (by omega) (by omega) (by decide) (by decide) ?_ ?_
      · intro hc2
        change (3 : Int) < k4_2 at hc2
        refine pw_ld E (pc' := 30) (st' := [pw_i k4_1]) rfl (fun _ => rfl) ?_
        refine pw_if E (pc' := 41) rfl (by decide) (by omega) (by omega) ?_ ?_
        · intro hc3
          change (0 : Int) ≤ k4_1 at hc3
          refine pw_ld E (pc' := 42) (st' := [.ref 141]) rfl (fun _ => rfl) ?_
          refine pw_getR (b := 161) I E (c := 125) (k := 31) (pc' := 45) rfl rfl rfl rfl rfl rfl rfl ?_
          refine pw_bip E (pc' := 47) rfl rfl (by decide) ?_
          refine pw_ld E (pc' := 48) (st' := [pw_i k4_1, pw_i 16, .ref 161]) rfl (fun _ => rfl) ?_
          refine pw_add E (pc' := 49) rfl rfl ?_
          refine pw_ald2 I E (c := 145) (pc' := 50) rfl rfl rfl (by decide) rfl (by decide) (by omega) (by omega) rfl (fun hf4a hf4b => ?_)
          refine pw_if E (pc' := 58) rfl (by decide) (by omega) (by omega) ?_ ?_
          · intro hc5
            change pw_g h 145 ((16 + k4_1).toNat) < (0 : Int) at hc5
            refine pw_ld E (pc' := 59) (st' := [.ref 141]) rfl (fun _ => rfl) ?_
            refine pw_getI2 I E (c := 125) (k := 8) (pc' := 62) rfl rfl rfl rfl rfl rfl (fun hf6a hf6b => ?_)
            refine pw_if E (pc' := 66) rfl (by decide) (by omega) (by omega) ?_ ?_
            · intro hc7
              change pw_g h 125 8 ≤ (0 : Int) at hc7
              refine pw_ld E (pc' := 67) (st' := [.ref 141]) rfl (fun _ => rfl) ?_
              refine pw_ld E (pc' := 68) (st' := [.ref 141, .ref 141]) rfl (fun _ => rfl) ?_
              refine pw_getI2 I E (c := 125) (k := 7) (pc' := 71) rfl rfl rfl rfl rfl rfl (fun hf8a hf8b => ?_)
              refine pw_ld E (pc' := 72) (st' := [pw_i 1, pw_i (pw_g h 125 7), .ref 141]) rfl (fun _ => rfl) ?_
              refine pw_add E (pc' := 73) rfl rfl ?_
              have hlt9 : (pw_g h 125 7) + 1 ≤ 1001 ∧ (pw_g h 125 7) + 1 ≤ n := by first | omega | (have := pw_A.lt A (by omega); omega) | (have := pw_A.lt A (by omega); omega)
              refine pw_putI I E (c := 125) (k := 7) (pc' := 76) rfl rfl rfl rfl (by omega) (by omega) (by omega) (by omega) rfl rfl ?_
              intro h10I h10E
              generalize h10w : pw_w h 125 7 (pw_i ((pw_g h 125 7) + 1)) = h10 at h10I h10E ⊢
              have h10F := E0.tr (h10E.wk (W' := [125, 145, 146, 147]) (by first | rfl | simp))
              have h107 : pw_g h10 125 7 = pw_g h 125 7 + 1 := by rw [← h10w]; exact pw_g_eq (c := 125) (k := 7) I rfl rfl (by omega) (by omega)
              have h108 : pw_g h10 125 8 = pw_g h 125 8 := by rw [← h10w]; exact pw_g_ne (by omega)
              have h109 : pw_g h10 125 32 = pw_g h 125 32 := by rw [← h10w]; exact pw_g_ne (by omega)
              have h10A : pw_A n h10 := ⟨hn1, by rw [← h10w, pw_g_ne (by omega)]; exact A.2.1, by omega, by omega, by omega, by omega⟩
              have h10R : pw_R 1 0 0 h h10 := pw_R.same (by decide) (by omega) (by omega) h107 h109 (fun j => by rw [← h10w]; exact pw_g_ne (by omega)) (fun j => by rw [← h10w]; exact pw_g_ne (by omega))
              have R11 : pw_R 1 0 0 h h10 := R0.tr (h10R : pw_R 1 0 0 h h10) (by decide) (by decide) (by decide)
              have hA12 : pw_g h10 125 7 ≤ n ∧ 0 ≤ pw_g h10 125 8 ∧ 0 ≤ pw_g h10 125 7 ∧ 0 ≤ pw_g h10 125 32 := h10A.2.2
              have hA13 : pw_g h 125 7 - pw_g h 125 32 + 1 ≤ pw_g h10 125 7 - pw_g h10 125 32 := R11.1.2.2.2.1
              have hA14 : pw_g h 125 7 ≤ pw_g h10 125 7 := h10R.1.2.1
              have hA14z : pw_g h10 125 8 = 0 → pw_g h 125 8 = 0 := h10R.1.1
              refine pw_ld E (pc' := 77) (st' := [pw_i k4_1]) rfl (fun _ => rfl) ?_
              refine pw_ld E (pc' := 78) (st' := [pw_i 1, pw_i k4_1]) rfl (fun _ => rfl) ?_
              refine pw_if2 E (pc' := 86) rfl (by decide) (by omega) (by omega) (by decide) (by decide) ?_ ?_
              · intro hc15
                change k4_1 ≤ (1 : Int) at hc15
                refine pw_ld E (pc' := 87) (st' := [.ref 141]) rfl (fun _ => rfl) ?_
                refine pw_getR (b := 161) h10I E (c := 125) (k := 31) (pc' := 90) rfl rfl rfl rfl rfl rfl rfl ?_
                refine pw_bip E (pc' := 92) rfl rfl (by decide) ?_
                refine pw_ld E (pc' := 93) (st' := [pw_i k4_1, pw_i 16, .ref 161]) rfl (fun _ => rfl) ?_
                refine pw_add E (pc' := 94) rfl rfl ?_
                refine pw_ld E (pc' := 95) (st' := [.ref 141, pw_i (16 + k4_1), .ref 161]) rfl (fun _ => rfl) ?_
                refine pw_getI2 h10I E (c := 125) (k := 32) (pc' := 98) rfl rfl rfl rfl rfl rfl (fun hf16a hf16b => ?_)
                refine pw_ast0 h10I E (c := 145) (pc' := 99) rfl rfl rfl (by decide) rfl (by decide) (by omega) (by omega) rfl (by omega) (by omega) (by omega) (by omega) rfl ?_
                intro h17I h17E
                generalize h17w : pw_w h10 145 ((16 + k4_1).toNat) (pw_i (pw_g h10 125 32)) = h17 at h17I h17E ⊢
                have h17F := h10F.tr (h17E.wk (W' := [125, 145, 146, 147]) (by first | rfl | simp))
                have h177 : pw_g h17 125 7 = pw_g h10 125 7 := by rw [← h17w]; exact pw_g_ne (by omega)
                have h178 : pw_g h17 125 8 = pw_g h10 125 8 := by rw [← h17w]; exact pw_g_ne (by omega)
                have h179 : pw_g h17 125 32 = pw_g h10 125 32 := by rw [← h17w]; exact pw_g_ne (by omega)
                have h17A : pw_A n h17 := ⟨hn1, by rw [← h17w, pw_g_ne (by omega)]; exact h10A.2.1, by omega, by omega, by omega, by omega⟩
                have h17R : pw_R 0 0 0 h10 h17 := pw_R.same (by decide) (by omega) (by omega) (by omega) h179 (fun j => by rw [← h17w]; exact pw_g_ne (by omega)) (fun j => by rw [← h17w]; exact pw_g_ne (by omega))
                have R18 : pw_R 1 0 0 h h17 := R11.tr (h17R : pw_R 0 0 0 h10 h17) (by decide) (by decide) (by decide)
                have hA19 : pw_g h17 125 7 ≤ n ∧ 0 ≤ pw_g h17 125 8 ∧ 0 ≤ pw_g h17 125 7 ∧ 0 ≤ pw_g h17 125 32 := h17A.2.2
                have hA20 : pw_g h 125 7 - pw_g h 125 32 + 1 ≤ pw_g h17 125 7 - pw_g h17 125 32 := R18.1.2.2.2.1
                have hA21 : pw_g h10 125 7 ≤ pw_g h17 125 7 := h17R.1.2.1
                have hA21z : pw_g h17 125 8 = 0 → pw_g h10 125 8 = 0 := h17R.1.1
                refine pw_ld E (pc' := 100) (st' := [.ref 141]) rfl (fun _ => rfl) ?_
                refine pw_ld E (pc' := 101) (st' := [pw_i 0, .ref 141]) rfl (fun _ => rfl) ?_
                obtain ⟨f22l, f22h, -⟩ := pw_obj (c := 125) h17I rfl
                refine pw_call (m' := 248) (As := [.ref 141, pw_i 0]) (rest := []) (ls'' := [some (.ref 141), some (pw_i 0), none]) (Nat.le_trans (by decide) hd) E rfl (fun _ => pw_iV rfl rfl rfl rfl (pw_cellI f22h rfl)) (rfl : pm_ent 248 = some (2, 3, 12, 4, pmc_248)) rfl rfl (pw_C248_all (by omega) h17I h17A (by omega)) ?_
                rintro h23 v24 ⟨h23I, h23E, ⟨h23A, h23R⟩, rfl⟩
                refine ⟨_, rfl, ?_⟩
                have h23F := h17F.tr (h23E.wk (W' := [125, 145, 146, 147]) (by first | rfl | simp))
                show pw X d h23 243 104 [some (.ref 141), some (pw_i k4_1), some (pw_i k4_2)] [] _
                have R25 : pw_R 1 0 1 h h23 := R18.tr (h23R : pw_R 0 0 1 h17 h23) (by decide) (by decide) (by decide)
                have hA26 : pw_g h23 125 7 ≤ n ∧ 0 ≤ pw_g h23 125 8 ∧ 0 ≤ pw_g h23 125 7 ∧ 0 ≤ pw_g h23 125 32 := h23A.2.2
                have hA27 : pw_g h 125 7 - pw_g h 125 32 + 1 ≤ pw_g h23 125 7 - pw_g h23 125 32 := R25.1.2.2.2.1
                have hA28 : pw_g h17 125 7 ≤ pw_g h23 125 7 := h23R.1.2.1
                have hA28z : pw_g h23 125 8 = 0 → pw_g h17 125 8 = 0 := h23R.1.1
                refine pw_ld E (pc' := 105) (st' := [.ref 141]) rfl (fun _ => rfl) ?_
                refine pw_ld E (pc' := 106) (st' := [pw_i 0, .ref 141]) rfl (fun _ => rfl) ?_
                refine pw_ld E (pc' := 107) (st' := [pw_i 0, pw_i 0, .ref 141]) rfl (fun _ => rfl) ?_
                obtain ⟨f29l, f29h, -⟩ := pw_obj (c := 125) h23I rfl
                refine pw_call (m' := 255) (As := [.ref 141, pw_i 0, pw_i 0]) (rest := []) (ls'' := [some (.ref 141), some (pw_i 0), some (pw_i 0)]) (Nat.le_trans (by decide) hd) E rfl (fun _ => pw_iV rfl rfl rfl rfl (pw_cellI f29h rfl)) (rfl : pm_ent 255 = some (3, 3, 12, 4, pmc_255)) rfl rfl (cm_255 (pw_dp hd (by decide)) h23I h23A (by omega) (0) (by omega) (by omega) (0) (by omega) (by omega)) ?_
                rintro h30 v31 ⟨h30I, h30E, ⟨h308, h307, h30c, h30o, h30g, h30u⟩, rfl⟩
                refine ⟨_, rfl, ?_⟩
                have h30F := h23F.tr (h30E.wk (W' := [125, 145, 146, 147]) (by first | rfl | simp))
                show pw X d h30 243 110 [some (.ref 141), some (pw_i k4_1), some (pw_i k4_2)] [] _
                have h30A : pw_A n h30 := ⟨hn1, by rw [pw_Eg (c := 127) h23I h30E rfl rfl]; exact h23A.2.1, by omega, by omega, by omega, by omega⟩
                have Q32 : pw_Q 0 h h30 := R25.1.tr (pw_Q.emit (by omega) (by omega) h308 h307 h30c h30u) (by decide)
                have hLn : pw_g h23 125 8 = 0 → pw_Ln h30 4400 (pw_g h17 125 32) (pw_g h30 125 32) := fun hz => pw_Ln.end (by omega) (by decide) h23R hz h30c h30o h30u
                have hA33 : pw_g h 125 7 - pw_g h 125 32 + 0 ≤ pw_g h30 125 7 - pw_g h30 125 32 := Q32.2.2.2.1
                refine pw_ld E (pc' := 111) (st' := [.ref 141]) rfl (fun _ => rfl) ?_
                refine pw_bip E (pc' := 113) rfl rfl (by decide) ?_
                obtain ⟨f34l, f34h, -⟩ := pw_obj (c := 125) h30I rfl
                refine pw_call (m' := 257) (As := [.ref 141, pw_i 59]) (rest := []) (ls'' := [some (.ref 141), some (pw_i 59)]) (Nat.le_trans (by decide) hd) E rfl (fun _ => pw_iV rfl rfl rfl rfl (pw_cellI f34h rfl)) (rfl : pm_ent 257 = some (2, 2, 12, 4, pmc_257)) rfl rfl (cm_257 (pw_dp hd (by decide)) h30I h30A (59) (by omega) (by omega)) ?_
                rintro h35 v36 ⟨h35I, h35E, ⟨h35A, h35R⟩, rfl⟩
                refine ⟨_, rfl, ?_⟩
                have h35F := h30F.tr (h35E.wk (W' := [125, 145, 146, 147]) (by first | rfl | simp))
                show pw X d h35 243 116 [some (.ref 141), some (pw_i k4_1), some (pw_i k4_2)] [] _
                have R37 : pw_Q 0 h h35 := Q32.tr (h35R.1 : pw_Q 0 h30 h35) (by decide)
                have hA38 : pw_g h35 125 7 ≤ n ∧ 0 ≤ pw_g h35 125 8 ∧ 0 ≤ pw_g h35 125 7 ∧ 0 ≤ pw_g h35 125 32 := h35A.2.2
                have hA39 : pw_g h 125 7 - pw_g h 125 32 + 0 ≤ pw_g h35 125 7 - pw_g h35 125 32 := R37.2.2.2.1
                have hA40 : pw_g h30 125 7 ≤ pw_g h35 125 7 := h35R.1.2.1
                have hA40z : pw_g h35 125 8 = 0 → pw_g h30 125 8 = 0 := h35R.1.1
                refine pw_vret E rfl ?_
                have hl41 : ∀ j : Nat, pw_g h35 145 j = pw_g h17 145 j := fun j => (((pw_Eg (c := 145) h30I h35E rfl rfl j : pw_g h35 145 j = pw_g h30 145 j)).trans (pw_Eg (c := 145) h23I h30E rfl rfl j : pw_g h30 145 j = pw_g h23 145 j)).trans (pw_Eg (c := 145) h17I h23E rfl rfl j : pw_g h23 145 j = pw_g h17 145 j)
                have hl42 : ∀ j : Nat, pw_g h10 145 j = pw_g h 145 j := fun j => (by rw [← h10w]; exact pw_g_ne (by omega) : pw_g h10 145 j = pw_g h 145 j)
                have hw0 : pw_g h17 145 ((16 + k4_1).toNat) = pw_g h10 125 32 := by rw [← h17w]; exact pw_g_eqA h10I rfl (by omega) (by omega) (by omega)
                have hw1 : ∀ j : Nat, j ≠ (16 + k4_1).toNat → pw_g h17 145 j = pw_g h10 145 j := fun j hj => by rw [← h17w]; exact pw_g_ne (fun q => hj q.2.symm)
                have hfin : pw_g h35 125 8 = 0 → pw_Ls h35 ∧ pw_g h 125 7 < pw_g h35 125 7 := by
                  intro q
                  refine ⟨fun k hk => ?_, by omega⟩
                  rcases Nat.lt_or_ge 0 (if 16 + k = (16 + k4_1).toNat then 1 else 0) with hq | hq
                  · have hq : 16 + k = (16 + k4_1).toNat := by split at hq <;> omega
                    rw [hq, hl41, hw0]
                    have hl : pw_Ln h35 4400 (pw_g h17 125 32) (pw_g h35 125 32) := pw_Ln.q h35R.1 (by omega) (hLn (by omega))
                    rw [show pw_g h10 125 32 = pw_g h17 125 32 by omega]
                    exact Or.inr hl
                  · have hq : 16 + k ≠ (16 + k4_1).toNat := by split at hq <;> omega
                    rw [hl41, hw1 _ hq, hl42]
                    rcases Int.lt_or_le (pw_g h 145 (16 + k)) 0 with hz | hz
                    · exact Or.inl hz
                    · exact Or.inr (pw_Ln.q R37 hz (((hL (by omega)) k hk).resolve_left (by omega)))
                exact ⟨h35I, h35F, ⟨h35A, R37.wk (by decide), hfin, fun j hj => (hl41 j).trans ((hw1 j (by omega)).trans (hl42 j))⟩, rfl⟩
              · intro hc43
                change ¬ (k4_1 ≤ (1 : Int)) at hc43
                refine pw_ld E (pc' := 82) (st' := [.ref 141]) rfl (fun _ => rfl) ?_
                refine pw_ld E (pc' := 83) (st' := [pw_i 4, .ref 141]) rfl (fun _ => rfl) ?_
                obtain ⟨f44l, f44h, -⟩ := pw_obj (c := 125) h10I rfl
                refine pw_call (m' := 246) (As := [.ref 141, pw_i 4]) (rest := []) (ls'' := [some (.ref 141), some (pw_i 4)]) (Nat.le_trans (by decide) hd) E rfl (fun _ => pw_iV rfl rfl rfl rfl (pw_cellI f44h rfl)) (rfl : pm_ent 246 = some (2, 2, 12, 4, pmc_246)) rfl rfl (cm_246 (pw_dp hd (by decide)) h10I h10A (4) (by omega) (by omega)) ?_
                rintro h45 v46 ⟨h45I, h45E, ⟨h45A, h45R⟩, rfl⟩
                refine ⟨_, rfl, ?_⟩
                have h45F := h10F.tr (h45E.wk (W' := [125, 145, 146, 147]) (by first | rfl | simp))
                show pw X d h45 243 86 [some (.ref 141), some (pw_i k4_1), some (pw_i k4_2)] [] _
                have R47 : pw_R 1 0 0 h h45 := R11.tr (h45R : pw_R 0 0 0 h10 h45) (by decide) (by decide) (by decide)
                have hA48 : pw_g h45 125 7 ≤ n ∧ 0 ≤ pw_g h45 125 8 ∧ 0 ≤ pw_g h45 125 7 ∧ 0 ≤ pw_g h45 125 32 := h45A.2.2
                have hA49 : pw_g h 125 7 - pw_g h 125 32 + 1 ≤ pw_g h45 125 7 - pw_g h45 125 32 := R47.1.2.2.2.1
                have hA50 : pw_g h10 125 7 ≤ pw_g h45 125 7 := h45R.1.2.1
                have hA50z : pw_g h45 125 8 = 0 → pw_g h10 125 8 = 0 := h45R.1.1
                refine pw_ld E (pc' := 87) (st' := [.ref 141]) rfl (fun _ => rfl) ?_
                refine pw_getR (b := 161) h45I E (c := 125) (k := 31) (pc' := 90) rfl rfl rfl rfl rfl rfl rfl ?_
                refine pw_bip E (pc' := 92) rfl rfl (by decide) ?_
                refine pw_ld E (pc' := 93) (st' := [pw_i k4_1, pw_i 16, .ref 161]) rfl (fun _ => rfl) ?_
                refine pw_add E (pc' := 94) rfl rfl ?_
                refine pw_ld E (pc' := 95) (st' := [.ref 141, pw_i (16 + k4_1), .ref 161]) rfl (fun _ => rfl) ?_
                refine pw_getI2 h45I E (c := 125) (k := 32) (pc' := 98) rfl rfl rfl rfl rfl rfl (fun hf51a hf51b => ?_)
                refine pw_ast0 h45I E (c := 145) (pc' := 99) rfl rfl rfl (by decide) rfl (by decide) (by omega) (by omega) rfl (by omega) (by omega) (by omega) (by omega) rfl ?_
                intro h52I h52E
                generalize h52w : pw_w h45 145 ((16 + k4_1).toNat) (pw_i (pw_g h45 125 32)) = h52 at h52I h52E ⊢
                have h52F := h45F.tr (h52E.wk (W' := [125, 145, 146, 147]) (by first | rfl | simp))
                have h527 : pw_g h52 125 7 = pw_g h45 125 7 := by rw [← h52w]; exact pw_g_ne (by omega)
                have h528 : pw_g h52 125 8 = pw_g h45 125 8 := by rw [← h52w]; exact pw_g_ne (by omega)
                have h529 : pw_g h52 125 32 = pw_g h45 125 32 := by rw [← h52w]; exact pw_g_ne (by omega)
                have h52A : pw_A n h52 := ⟨hn1, by rw [← h52w, pw_g_ne (by omega)]; exact h45A.2.1, by omega, by omega, by omega, by omega⟩
                have h52R : pw_R 0 0 0 h45 h52 := pw_R.same (by decide) (by omega) (by omega) (by omega) h529 (fun j => by rw [← h52w]; exact pw_g_ne (by omega)) (fun j => by rw [← h52w]; exact pw_g_ne (by omega))
                have R53 : pw_R 1 0 0 h h52 := R47.tr (h52R : pw_R 0 0 0 h45 h52) (by decide) (by decide) (by decide)
                have hA54 : pw_g h52 125 7 ≤ n ∧ 0 ≤ pw_g h52 125 8 ∧ 0 ≤ pw_g h52 125 7 ∧ 0 ≤ pw_g h52 125 32 := h52A.2.2
                have hA55 : pw_g h 125 7 - pw_g h 125 32 + 1 ≤ pw_g h52 125 7 - pw_g h52 125 32 := R53.1.2.2.2.1
                have hA56 : pw_g h45 125 7 ≤ pw_g h52 125 7 := h52R.1.2.1
                have hA56z : pw_g h52 125 8 = 0 → pw_g h45 125 8 = 0 := h52R.1.1
                refine pw_ld E (pc' := 100) (st' := [.ref 141]) rfl (fun _ => rfl) ?_
                refine pw_ld E (pc' := 101) (st' := [pw_i 0, .ref 141]) rfl (fun _ => rfl) ?_
                obtain ⟨f57l, f57h, -⟩ := pw_obj (c := 125) h52I rfl
                refine pw_call (m' := 248) (As := [.ref 141, pw_i 0]) (rest := []) (ls'' := [some (.ref 141), some (pw_i 0), none]) (Nat.le_trans (by decide) hd) E rfl (fun _ => pw_iV rfl rfl rfl rfl (pw_cellI f57h rfl)) (rfl : pm_ent 248 = some (2, 3, 12, 4, pmc_248)) rfl rfl (pw_C248_all (by omega) h52I h52A (by omega)) ?_
                rintro h58 v59 ⟨h58I, h58E, ⟨h58A, h58R⟩, rfl⟩
                refine ⟨_, rfl, ?_⟩
                have h58F := h52F.tr (h58E.wk (W' := [125, 145, 146, 147]) (by first | rfl | simp))
                show pw X d h58 243 104 [some (.ref 141), some (pw_i k4_1), some (pw_i k4_2)] [] _
                have R60 : pw_R 1 0 1 h h58 := R53.tr (h58R : pw_R 0 0 1 h52 h58) (by decide) (by decide) (by decide)
                have hA61 : pw_g h58 125 7 ≤ n ∧ 0 ≤ pw_g h58 125 8 ∧ 0 ≤ pw_g h58 125 7 ∧ 0 ≤ pw_g h58 125 32 := h58A.2.2
                have hA62 : pw_g h 125 7 - pw_g h 125 32 + 1 ≤ pw_g h58 125 7 - pw_g h58 125 32 := R60.1.2.2.2.1
                have hA63 : pw_g h52 125 7 ≤ pw_g h58 125 7 := h58R.1.2.1
                have hA63z : pw_g h58 125 8 = 0 → pw_g h52 125 8 = 0 := h58R.1.1
                refine pw_ld E (pc' := 105) (st' := [.ref 141]) rfl (fun _ => rfl) ?_
                refine pw_ld E (pc' := 106) (st' := [pw_i 0, .ref 141]) rfl (fun _ => rfl) ?_
                refine pw_ld E (pc' := 107) (st' := [pw_i 0, pw_i 0, .ref 141]) rfl (fun _ => rfl) ?_
                obtain ⟨f64l, f64h, -⟩ := pw_obj (c := 125) h58I rfl
                refine pw_call (m' := 255) (As := [.ref 141, pw_i 0, pw_i 0]) (rest := []) (ls'' := [some (.ref 141), some (pw_i 0), some (pw_i 0)]) (Nat.le_trans (by decide) hd) E rfl (fun _ => pw_iV rfl rfl rfl rfl (pw_cellI f64h rfl)) (rfl : pm_ent 255 = some (3, 3, 12, 4, pmc_255)) rfl rfl (cm_255 (pw_dp hd (by decide)) h58I h58A (by omega) (0) (by omega) (by omega) (0) (by omega) (by omega)) ?_
                rintro h65 v66 ⟨h65I, h65E, ⟨h658, h657, h65c, h65o, h65g, h65u⟩, rfl⟩
                refine ⟨_, rfl, ?_⟩
                have h65F := h58F.tr (h65E.wk (W' := [125, 145, 146, 147]) (by first | rfl | simp))
                show pw X d h65 243 110 [some (.ref 141), some (pw_i k4_1), some (pw_i k4_2)] [] _
                have h65A : pw_A n h65 := ⟨hn1, by rw [pw_Eg (c := 127) h58I h65E rfl rfl]; exact h58A.2.1, by omega, by omega, by omega, by omega⟩
                have Q67 : pw_Q 0 h h65 := R60.1.tr (pw_Q.emit (by omega) (by omega) h658 h657 h65c h65u) (by decide)
                have hLn : pw_g h58 125 8 = 0 → pw_Ln h65 4400 (pw_g h52 125 32) (pw_g h65 125 32) := fun hz => pw_Ln.end (by omega) (by decide) h58R hz h65c h65o h65u
                have hA68 : pw_g h 125 7 - pw_g h 125 32 + 0 ≤ pw_g h65 125 7 - pw_g h65 125 32 := Q67.2.2.2.1
                refine pw_ld E (pc' := 111) (st' := [.ref 141]) rfl (fun _ => rfl) ?_
                refine pw_bip E (pc' := 113) rfl rfl (by decide) ?_
                obtain ⟨f69l, f69h, -⟩ := pw_obj (c := 125) h65I rfl
                refine pw_call (m' := 257) (As := [.ref 141, pw_i 59]) (rest := []) (ls'' := [some (.ref 141), some (pw_i 59)]) (Nat.le_trans (by decide) hd) E rfl (fun _ => pw_iV rfl rfl rfl rfl (pw_cellI f69h rfl)) (rfl : pm_ent 257 = some (2, 2, 12, 4, pmc_257)) rfl rfl (cm_257 (pw_dp hd (by decide)) h65I h65A (59) (by omega) (by omega)) ?_
                rintro h70 v71 ⟨h70I, h70E, ⟨h70A, h70R⟩, rfl⟩
                refine ⟨_, rfl, ?_⟩
                have h70F := h65F.tr (h70E.wk (W' := [125, 145, 146, 147]) (by first | rfl | simp))
                show pw X d h70 243 116 [some (.ref 141), some (pw_i k4_1), some (pw_i k4_2)] [] _
                have R72 : pw_Q 0 h h70 := Q67.tr (h70R.1 : pw_Q 0 h65 h70) (by decide)
                have hA73 : pw_g h70 125 7 ≤ n ∧ 0 ≤ pw_g h70 125 8 ∧ 0 ≤ pw_g h70 125 7 ∧ 0 ≤ pw_g h70 125 32 := h70A.2.2
                have hA74 : pw_g h 125 7 - pw_g h 125 32 + 0 ≤ pw_g h70 125 7 - pw_g h70 125 32 := R72.2.2.2.1
                have hA75 : pw_g h65 125 7 ≤ pw_g h70 125 7 := h70R.1.2.1
                have hA75z : pw_g h70 125 8 = 0 → pw_g h65 125 8 = 0 := h70R.1.1
                refine pw_vret E rfl ?_
                have hl76 : ∀ j : Nat, pw_g h70 145 j = pw_g h52 145 j := fun j => (((pw_Eg (c := 145) h65I h70E rfl rfl j : pw_g h70 145 j = pw_g h65 145 j)).trans (pw_Eg (c := 145) h58I h65E rfl rfl j : pw_g h65 145 j = pw_g h58 145 j)).trans (pw_Eg (c := 145) h52I h58E rfl rfl j : pw_g h58 145 j = pw_g h52 145 j)
                have hl77 : ∀ j : Nat, pw_g h45 145 j = pw_g h 145 j := fun j => ((pw_Eg (c := 145) h10I h45E rfl rfl j : pw_g h45 145 j = pw_g h10 145 j)).trans (by rw [← h10w]; exact pw_g_ne (by omega) : pw_g h10 145 j = pw_g h 145 j)
                have hw0 : pw_g h52 145 ((16 + k4_1).toNat) = pw_g h45 125 32 := by rw [← h52w]; exact pw_g_eqA h45I rfl (by omega) (by omega) (by omega)
                have hw1 : ∀ j : Nat, j ≠ (16 + k4_1).toNat → pw_g h52 145 j = pw_g h45 145 j := fun j hj => by rw [← h52w]; exact pw_g_ne (fun q => hj q.2.symm)
                have hfin : pw_g h70 125 8 = 0 → pw_Ls h70 ∧ pw_g h 125 7 < pw_g h70 125 7 := by
                  intro q
                  refine ⟨fun k hk => ?_, by omega⟩
                  rcases Nat.lt_or_ge 0 (if 16 + k = (16 + k4_1).toNat then 1 else 0) with hq | hq
                  · have hq : 16 + k = (16 + k4_1).toNat := by split at hq <;> omega
                    rw [hq, hl76, hw0]
                    have hl : pw_Ln h70 4400 (pw_g h52 125 32) (pw_g h70 125 32) := pw_Ln.q h70R.1 (by omega) (hLn (by omega))
                    rw [show pw_g h45 125 32 = pw_g h52 125 32 by omega]
                    exact Or.inr hl
                  · have hq : 16 + k ≠ (16 + k4_1).toNat := by split at hq <;> omega
                    rw [hl76, hw1 _ hq, hl77]
                    rcases Int.lt_or_le (pw_g h 145 (16 + k)) 0 with hz | hz
                    · exact Or.inl hz
                    · exact Or.inr (pw_Ln.q R72 hz (((hL (by omega)) k hk).resolve_left (by omega)))
                exact ⟨h70I, h70F, ⟨h70A, R72.wk (by decide), hfin, fun j hj => (hl76 j).trans ((hw1 j (by omega)).trans (hl77 j))⟩, rfl⟩
            · intro hc78
              change ¬ (pw_g h 125 8 ≤ (0 : Int)) at hc78
              refine pw_vret E rfl ?_
              have hl79 : ∀ j : Nat, pw_g h 145 j = pw_g h 145 j := fun j => rfl
              exact ⟨I, E0, ⟨A, (R0.wk (by decide)).1, fun q => absurd q (by omega), fun j _ => hl79 j⟩, rfl⟩
          · intro hc80
            change ¬ (pw_g h 145 ((16 + k4_1).toNat) < (0 : Int)) at hc80
            refine pw_ld E (pc' := 54) (st' := [.ref 141]) rfl (fun _ => rfl) ?_
            refine pw_ld E (pc' := 55) (st' := [pw_i 3, .ref 141]) rfl (fun _ => rfl) ?_
            obtain ⟨f81l, f81h, -⟩ := pw_obj (c := 125) I rfl
            refine pw_call (m' := 245) (As := [.ref 141, pw_i 3]) (rest := []) (ls'' := [some (.ref 141), some (pw_i 3)]) (Nat.le_trans (by decide) hd) E rfl (fun _ => pw_iV rfl rfl rfl rfl (pw_cellI f81h rfl)) (rfl : pm_ent 245 = some (2, 2, 12, 4, pmc_245)) rfl rfl (cm_245 (pw_dp hd (by decide)) I A (3) (by omega) (by omega)) ?_
            rintro h82 v83 ⟨h82I, h82E, ⟨h82A, h82R, h82z⟩, rfl⟩
            refine ⟨_, rfl, ?_⟩
            have h82F := E0.tr (h82E.wk (W' := [125, 145, 146, 147]) (by first | rfl | simp))
            show pw X d h82 243 58 [some (.ref 141), some (pw_i k4_1), some (pw_i k4_2)] [] _
            change 1 ≤ pw_g h82 125 8 at h82z
            have R84 : pw_R 0 0 0 h h82 := R0.tr (h82R : pw_R 0 0 0 h h82) (by decide) (by decide) (by decide)
            have hA85 : pw_g h82 125 7 ≤ n ∧ 0 ≤ pw_g h82 125 8 ∧ 0 ≤ pw_g h82 125 7 ∧ 0 ≤ pw_g h82 125 32 := h82A.2.2
            have hA86 : pw_g h 125 7 - pw_g h 125 32 + 0 ≤ pw_g h82 125 7 - pw_g h82 125 32 := R84.1.2.2.2.1
            have hA87 : pw_g h 125 7 ≤ pw_g h82 125 7 := h82R.1.2.1
            have hA87z : pw_g h82 125 8 = 0 → pw_g h 125 8 = 0 := h82R.1.1
            refine pw_ld E (pc' := 59) (st' := [.ref 141]) rfl (fun _ => rfl) ?_
            refine pw_getI2 h82I E (c := 125) (k := 8) (pc' := 62) rfl rfl rfl rfl rfl rfl (fun hf88a hf88b => ?_)
            refine pw_if E (pc' := 66) rfl (by decide) (by omega) (by omega) ?_ ?_
            · intro hc89
              change pw_g h82 125 8 ≤ (0 : Int) at hc89
              exfalso; omega
            · intro hc90
              change ¬ (pw_g h82 125 8 ≤ (0 : Int)) at hc90
              refine pw_vret E rfl ?_
              have hl91 : ∀ j : Nat, pw_g h82 145 j = pw_g h 145 j := fun j => (pw_Eg (c := 145) I h82E rfl rfl j : pw_g h82 145 j = pw_g h 145 j)
              exact ⟨h82I, h82F, ⟨h82A, (R84.wk (by decide)).1, fun q => absurd q (by omega), fun j _ => hl91 j⟩, rfl⟩
        · intro hc92
          change ¬ ((0 : Int) ≤ k4_1) at hc92
          refine pw_ld E (pc' := 34) (st' := [.ref 141]) rfl (fun _ => rfl) ?_
          refine pw_ld E (pc' := 35) (st' := [pw_i 1, .ref 141]) rfl (fun _ => rfl) ?_
          obtain ⟨f93l, f93h, -⟩ := pw_obj (c := 125) I rfl
          refine pw_call (m' := 245) (As := [.ref 141, pw_i 1]) (rest := []) (ls'' := [some (.ref 141), some (pw_i 1)]) (Nat.le_trans (by decide) hd) E rfl (fun _ => pw_iV rfl rfl rfl rfl (pw_cellI f93h rfl)) (rfl : pm_ent 245 = some (2, 2, 12, 4, pmc_245)) rfl rfl (cm_245 (pw_dp hd (by decide)) I A (1) (by omega) (by omega)) ?_
          rintro h94 v95 ⟨h94I, h94E, ⟨h94A, h94R, h94z⟩, rfl⟩
          refine ⟨_, rfl, ?_⟩
          have h94F := E0.tr (h94E.wk (W' := [125, 145, 146, 147]) (by first | rfl | simp))
          show pw X d h94 243 38 [some (.ref 141), some (pw_i k4_1), some (pw_i k4_2)] [] _
          change 1 ≤ pw_g h94 125 8 at h94z
          have R96 : pw_R 0 0 0 h h94 := R0.tr (h94R : pw_R 0 0 0 h h94) (by decide) (by decide) (by decide)
          have hA97 : pw_g h94 125 7 ≤ n ∧ 0 ≤ pw_g h94 125 8 ∧ 0 ≤ pw_g h94 125 7 ∧ 0 ≤ pw_g h94 125 32 := h94A.2.2
          have hA98 : pw_g h 125 7 - pw_g h 125 32 + 0 ≤ pw_g h94 125 7 - pw_g h94 125 32 := R96.1.2.2.2.1
          have hA99 : pw_g h 125 7 ≤ pw_g h94 125 7 := h94R.1.2.1
          have hA99z : pw_g h94 125 8 = 0 → pw_g h 125 8 = 0 := h94R.1.1
          refine pw_goto E (pc' := 58) rfl (by decide) ?_
          refine pw_ld E (pc' := 59) (st' := [.ref 141]) rfl (fun _ => rfl) ?_
          refine pw_getI2 h94I E (c := 125) (k := 8) (pc' := 62) rfl rfl rfl rfl rfl rfl (fun hf100a hf100b => ?_)
          refine pw_if E (pc' := 66) rfl (by decide) (by omega) (by omega) ?_ ?_
          · intro hc101
            change pw_g h94 125 8 ≤ (0 : Int) at hc101
            exfalso; omega
          · intro hc102
            change ¬ (pw_g h94 125 8 ≤ (0 : Int)) at hc102
            refine pw_vret E rfl ?_
            have hl103 : ∀ j : Nat, pw_g h94 145 j = pw_g h 145 j := fun j => (pw_Eg (c := 145) I h94E rfl rfl j : pw_g h94 145 j = pw_g h 145 j)
            exact ⟨h94I, h94F, ⟨h94A, (R96.wk (by decide)).1, fun q => absurd q (by omega), fun j _ => hl103 j⟩, rfl⟩
      · intro hc104
        change ¬ ((3 : Int) < k4_2) at hc104
        refine pw_ld E (pc' := 10) (st' := [.ref 141]) rfl (fun _ => rfl) ?_
        refine pw_ld E (pc' := 11) (st' := [pw_i k4_2, .ref 141]) rfl (fun _ => rfl) ?_
        obtain ⟨f105l, f105h, -⟩ := pw_obj (c := 125) I rfl
        refine pw_call (m' := 244) (As := [.ref 141, pw_i k4_2]) (rest := []) (ls'' := [some (.ref 141), some (pw_i k4_2)]) (Nat.le_trans (by decide) hd) E rfl (fun _ => pw_iV rfl rfl rfl rfl (pw_cellI f105h rfl)) (rfl : pm_ent 244 = some (2, 2, 12, 1, pmc_244)) rfl rfl (cm_244 (pw_dp hd (by decide)) I (k4_2) (by omega) (by omega)) ?_
        rintro u107 v106 ⟨rfl, x108, rfl, hx108a, hx108b, hx108r⟩
        refine ⟨_, rfl, ?_⟩
        show pw X d h 243 14 [some (.ref 141), some (pw_i k4_1), some (pw_i k4_2)] [pw_i x108] _
        change x108 = pw_wd h k4_2 ∧ (x108 = 1 → pw_g h 125 8 = 0 ∧ pw_g h 127 (pw_g h 125 7).toNat = 1) at hx108r
        rcases (by omega : x108 = 1 ∨ x108 = 0) with hb109 | hb109
        · skip
          refine pw_if E (pc' := 21) rfl (by decide) (by omega) (by omega) ?_ ?_
          · intro hc110
            change x108 = (0 : Int) at hc110
            exfalso; omega
          · intro hc111
            change ¬ (x108 = (0 : Int)) at hc111
            refine pw_ld E (pc' := 18) (st' := [pw_i k4_2]) rfl (fun _ => rfl) ?_
            refine pw_goto E (pc' := 22) rfl (by decide) ?_
            refine pw_istn E (pc' := 23) (ls' := [some (.ref 141), some (pw_i k4_2), some (pw_i k4_2)]) rfl rfl rfl rfl ?_
            refine pw_inc E (pc' := 26) (ls' := [some (.ref 141), some (pw_i k4_2), some (pw_i (k4_2 + 1))]) rfl rfl rfl rfl ?_
            refine pw_goto E (pc' := 4) rfl (by decide) ?_
            exact ih4 _ (by omega) (k4_2) (k4_2 + 1)  (by omega) (by omega) (by omega) (by omega) (by omega) rfl
        · skip
          refine pw_if E (pc' := 21) rfl (by decide) (by omega) (by omega) ?_ ?_
          · intro hc113
            change x108 = (0 : Int) at hc113
            refine pw_ld E (pc' := 22) (st' := [pw_i k4_1]) rfl (fun _ => rfl) ?_
            refine pw_istn E (pc' := 23) (ls' := [some (.ref 141), some (pw_i k4_1), some (pw_i k4_2)]) rfl rfl rfl rfl ?_
            refine pw_inc E (pc' := 26) (ls' := [some (.ref 141), some (pw_i k4_1), some (pw_i (k4_2 + 1))]) rfl rfl rfl rfl ?_
            refine pw_goto E (pc' := 4) rfl (by decide) ?_
            exact ih4 _ (by omega) (k4_1) (k4_2 + 1)  (by omega) (by omega) (by omega) (by omega) (by omega) rfl
          · intro hc114
            change ¬ (x108 = (0 : Int)) at hc114
            exfalso; omega
  exact L4 _ ((-1)) (0)  (by omega) (by omega) (by omega) (by omega) (by omega) rfl
end
section
/-! the model (printed by wip/tool/mall.py) -/
set_option maxHeartbeats 4000000 in
theorem cm_239_r {X : List (Nat × List Value)} {d : Nat} {h : pm_H} (hd : 1 ≤ d) (I : pw_I h) (ch : Int) (hch1 : (-2147483648) ≤ ch) (hch2 : ch ≤ 2147483647) : pw X d h 239 0 [some (pw_i ch)] [] (fun h' v => h = h' ∧ ∃ a : Int, v = .inl (some (pw_i a)) ∧ 0 ≤ a ∧ a ≤ 1 ∧ ((a = 1 ∧ 97 ≤ ch ∧ ch ≤ 122) ∨ (a = 0 ∧ ¬ (97 ≤ ch ∧ ch ≤ 122)))) := by
  have E : pm_ent 239 = some (1, 1, 12, 1, pmc_239) := rfl
  refine pw_ld E (pc' := 1) (st' := [pw_i ch]) rfl (fun _ => rfl) ?_
  refine pw_bip E (pc' := 3) rfl rfl (by decide) ?_
  refine pw_if2 E (pc' := 16) rfl (by decide) (by omega) (by omega) (by decide) (by decide) ?_ ?_
  · intro hc1
    change ch < (97 : Int) at hc1
    refine pw_ld E (pc' := 17) (st' := [pw_i 0]) rfl (fun _ => rfl) ?_
    refine pw_zret E rfl (by omega) ?_
    exact ⟨rfl, ⟨_, rfl, by omega, by omega, by omega⟩⟩
  · intro hc2
    change ¬ (ch < (97 : Int)) at hc2
    refine pw_ld E (pc' := 7) (st' := [pw_i ch]) rfl (fun _ => rfl) ?_
    refine pw_bip E (pc' := 9) rfl rfl (by decide) ?_
    refine pw_if2 E (pc' := 16) rfl (by decide) (by omega) (by omega) (by decide) (by decide) ?_ ?_
    · intro hc3
      change (122 : Int) < ch at hc3
      refine pw_ld E (pc' := 17) (st' := [pw_i 0]) rfl (fun _ => rfl) ?_
      refine pw_zret E rfl (by omega) ?_
      exact ⟨rfl, ⟨_, rfl, by omega, by omega, by omega⟩⟩
    · intro hc4
      change ¬ ((122 : Int) < ch) at hc4
      refine pw_ld E (pc' := 13) (st' := [pw_i 1]) rfl (fun _ => rfl) ?_
      refine pw_goto E (pc' := 17) rfl (by decide) ?_
      refine pw_zret E rfl (by omega) ?_
      exact ⟨rfl, ⟨_, rfl, by omega, by omega, by omega⟩⟩
set_option maxHeartbeats 4000000 in
theorem cm_241_r {X : List (Nat × List Value)} {d : Nat} {h : pm_H} (hd : 1 ≤ d) (I : pw_I h) (ch : Int) (hch1 : (-2147483648) ≤ ch) (hch2 : ch ≤ 2147483647) : pw X d h 241 0 [some (pw_i ch)] [] (fun h' v => h = h' ∧ ∃ a : Int, v = .inl (some (pw_i a)) ∧ 0 ≤ a ∧ a ≤ 1 ∧ ((a = 1 ∧ 48 ≤ ch ∧ ch ≤ 57) ∨ (a = 0 ∧ ¬ (48 ≤ ch ∧ ch ≤ 57)))) := by
  have E : pm_ent 241 = some (1, 1, 12, 1, pmc_241) := rfl
  refine pw_ld E (pc' := 1) (st' := [pw_i ch]) rfl (fun _ => rfl) ?_
  refine pw_bip E (pc' := 3) rfl rfl (by decide) ?_
  refine pw_if2 E (pc' := 16) rfl (by decide) (by omega) (by omega) (by decide) (by decide) ?_ ?_
  · intro hc1
    change ch < (48 : Int) at hc1
    refine pw_ld E (pc' := 17) (st' := [pw_i 0]) rfl (fun _ => rfl) ?_
    refine pw_zret E rfl (by omega) ?_
    exact ⟨rfl, ⟨_, rfl, by omega, by omega, by omega⟩⟩
  · intro hc2
    change ¬ (ch < (48 : Int)) at hc2
    refine pw_ld E (pc' := 7) (st' := [pw_i ch]) rfl (fun _ => rfl) ?_
    refine pw_bip E (pc' := 9) rfl rfl (by decide) ?_
    refine pw_if2 E (pc' := 16) rfl (by decide) (by omega) (by omega) (by decide) (by decide) ?_ ?_
    · intro hc3
      change (57 : Int) < ch at hc3
      refine pw_ld E (pc' := 17) (st' := [pw_i 0]) rfl (fun _ => rfl) ?_
      refine pw_zret E rfl (by omega) ?_
      exact ⟨rfl, ⟨_, rfl, by omega, by omega, by omega⟩⟩
    · intro hc4
      change ¬ ((57 : Int) < ch) at hc4
      refine pw_ld E (pc' := 13) (st' := [pw_i 1]) rfl (fun _ => rfl) ?_
      refine pw_goto E (pc' := 17) rfl (by decide) ?_
      refine pw_zret E rfl (by omega) ?_
      exact ⟨rfl, ⟨_, rfl, by omega, by omega, by omega⟩⟩
set_option maxHeartbeats 4000000 in
theorem cm_238 {X : List (Nat × List Value)} {d : Nat} {h : pm_H} (hd : 3 ≤ d) (I : pw_I h)  : pw X d h 238 0 [some (.ref 141), none, none, none, none, none, none] [] (fun h' v => pw_I h' ∧ pw_E [125, 127, 128, 129, 1002] h h' ∧ (∃ n : Nat, pw_A n h' ∧ pw_g h' 125 7 = 0 ∧ pw_g h' 125 8 = 0 ∧ pw_NV n h') ∧ (v = .inl none)) := by
  have E : pm_ent 238 = some (1, 7, 12, 4, pmc_238) := rfl
  have E0 : pw_E [125, 127, 128, 129, 1002] h h := pw_E.rf _ _
  refine pw_ld E (pc' := 1) (st' := [.ref 141]) rfl (fun _ => rfl) ?_
  refine pw_ld E (pc' := 2) (st' := [.ref 141, .ref 141]) rfl (fun _ => rfl) ?_
  refine pw_getI2 I E (c := 125) (k := 2) (pc' := 5) rfl rfl rfl rfl rfl rfl (fun hf1a hf1b => ?_)
  refine pw_putI I E (c := 125) (k := 3) (pc' := 8) rfl rfl rfl rfl (by omega) (by omega) (by omega) (by omega) rfl rfl ?_
  intro h2I h2E
  generalize h2w : pw_w h 125 3 (pw_i (pw_g h 125 2)) = h2 at h2I h2E ⊢
  have h2F := E0.tr (h2E.wk (W' := [125, 127, 128, 129, 1002]) (by first | rfl | simp))
  refine pw_ld E (pc' := 9) (st' := [.ref 141]) rfl (fun _ => rfl) ?_
  refine pw_ld E (pc' := 10) (st' := [pw_i 0, .ref 141]) rfl (fun _ => rfl) ?_
  refine pw_putP h2I E (k := 2) (pc' := 13) rfl rfl rfl rfl (by omega) (by omega) (by omega) (by omega) rfl rfl ?_
  intro h3I h3E
  generalize h3w : pw_w h2 125 2 (pw_i 0) = h3 at h3I h3E ⊢
  have h3F := h2F.tr (h3E.wk (W' := [125, 127, 128, 129, 1002]) (by first | rfl | simp))
  refine pw_ld E (pc' := 14) (st' := [pw_i 0]) rfl (fun _ => rfl) ?_
  refine pw_istn E (pc' := 15) (ls' := [some (.ref 141), some (pw_i 0), none, none, none, none, none]) rfl rfl rfl rfl ?_
  refine pw_ld E (pc' := 16) (st' := [pw_i 0]) rfl (fun _ => rfl) ?_
  refine pw_istn E (pc' := 17) (ls' := [some (.ref 141), some (pw_i 0), some (pw_i 0), none, none, none, none]) rfl rfl rfl rfl ?_
  have L17 : ∀ (n17 : Nat) (k17_1 : Int) (k17_2 : Int) (k17_3 : Option Value) (k17_4 : Option Value) (k17_5 : Option Value) (gh17 : pm_H), pw_I gh17 → pw_E [125, 127, 128, 129, 1002] h gh17 → 0 ≤ k17_1 → k17_1 ≤ 1000 → 0 ≤ k17_2 → k17_2 ≤ 1000 → k17_1 ≤ k17_2 → k17_2 ≤ pw_g gh17 125 3 → pw_NV (k17_1).toNat gh17 → (1000 - k17_2).toNat = n17 → pw X d gh17 238 17 [some (.ref 141), some (pw_i k17_1), some (pw_i k17_2), k17_3, k17_4, k17_5, none] [] (fun h' v => pw_I h' ∧ pw_E [125, 127, 128, 129, 1002] h h' ∧ (∃ n : Nat, pw_A n h' ∧ pw_g h' 125 7 = 0 ∧ pw_g h' 125 8 = 0 ∧ pw_NV n h') ∧ (v = .inl none)) := by
    intro n17
    induction n17 using Nat.strongRecOn with
    | ind n17 ih17 =>
      intro k17_1 k17_2 k17_3 k17_4 k17_5 gh17 I17 E17 k17_1a k17_1b k17_2a k17_2b hx17_0 hx17_1 hx17_2 hm17
      refine pw_ld E (pc' := 18) (st' := [pw_i k17_2]) rfl (fun _ => rfl) ?_
      refine pw_ld E (pc' := 19) (st' := [.ref 141, pw_i k17_2]) rfl (fun _ => rfl) ?_
      refine pw_getI2 I17 E (c := 125) (k := 3) (pc' := 22) rfl rfl rfl rfl rfl rfl (fun hf4a hf4b => ?_)
      refine pw_if2 E (pc' := 279) rfl (by decide) (by omega) (by omega) (by omega) (by omega) ?_ ?_
      · intro hc5
        change pw_g gh17 125 3 ≤ k17_2 at hc5
        refine pw_ld E (pc' := 280) (st' := [.ref 141]) rfl (fun _ => rfl) ?_
        refine pw_getR (b := 143) I17 E (c := 125) (k := 4) (pc' := 283) rfl rfl rfl rfl rfl rfl rfl ?_
        refine pw_ld E (pc' := 284) (st' := [pw_i k17_1, .ref 143]) rfl (fun _ => rfl) ?_
        refine pw_ld E (pc' := 285) (st' := [pw_i 0, pw_i k17_1, .ref 143]) rfl (fun _ => rfl) ?_
        refine pw_ast0 I17 E (c := 127) (pc' := 286) rfl rfl rfl (by decide) rfl (by decide) (by omega) (by omega) rfl (by omega) (by omega) (by omega) (by omega) rfl ?_
        intro h6I h6E
        generalize h6w : pw_w gh17 127 (k17_1.toNat) (pw_i 0) = h6 at h6I h6E ⊢
        have h6F := E17.tr (h6E.wk (W' := [125, 127, 128, 129, 1002]) (by first | rfl | simp))
        refine pw_ld E (pc' := 287) (st' := [.ref 141]) rfl (fun _ => rfl) ?_
        refine pw_getR (b := 144) h6I E (c := 125) (k := 5) (pc' := 290) rfl rfl rfl rfl rfl rfl rfl ?_
        refine pw_ld E (pc' := 291) (st' := [pw_i k17_1, .ref 144]) rfl (fun _ => rfl) ?_
        refine pw_ld E (pc' := 292) (st' := [.ref 141, pw_i k17_1, .ref 144]) rfl (fun _ => rfl) ?_
        have he8 : pw_g h6 125 3 = pw_g gh17 125 3 := by rw [← h6w]; exact pw_g_ne (by omega)
        refine pw_getI2 h6I E (c := 125) (k := 3) (pc' := 295) rfl rfl rfl rfl rfl rfl (fun hf7a hf7b => ?_)
        refine pw_ast0 h6I E (c := 128) (pc' := 296) rfl rfl rfl (by decide) rfl (by decide) (by omega) (by omega) rfl (by omega) (by omega) (by omega) (by omega) rfl ?_
        intro h9I h9E
        generalize h9w : pw_w h6 128 (k17_1.toNat) (pw_i (pw_g h6 125 3)) = h9 at h9I h9E ⊢
        have h9F := h6F.tr (h9E.wk (W' := [125, 127, 128, 129, 1002]) (by first | rfl | simp))
        refine pw_ld E (pc' := 297) (st' := [.ref 141]) rfl (fun _ => rfl) ?_
        refine pw_ld E (pc' := 298) (st' := [pw_i 0, .ref 141]) rfl (fun _ => rfl) ?_
        refine pw_putI h9I E (c := 125) (k := 7) (pc' := 301) rfl rfl rfl rfl (by omega) (by omega) (by omega) (by omega) rfl rfl ?_
        intro h10I h10E
        generalize h10w : pw_w h9 125 7 (pw_i 0) = h10 at h10I h10E ⊢
        have h10F := h9F.tr (h10E.wk (W' := [125, 127, 128, 129, 1002]) (by first | rfl | simp))
        refine pw_ld E (pc' := 302) (st' := [.ref 141]) rfl (fun _ => rfl) ?_
        refine pw_ld E (pc' := 303) (st' := [pw_i 0, .ref 141]) rfl (fun _ => rfl) ?_
        refine pw_putI h10I E (c := 125) (k := 8) (pc' := 306) rfl rfl rfl rfl (by omega) (by omega) (by omega) (by omega) rfl rfl ?_
        intro h11I h11E
        generalize h11w : pw_w h10 125 8 (pw_i 0) = h11 at h11I h11E ⊢
        have h11F := h10F.tr (h11E.wk (W' := [125, 127, 128, 129, 1002]) (by first | rfl | simp))
        refine pw_vret E rfl ?_
        have e7 : pw_g h11 125 7 = 0 := by rw [← h11w, pw_g_ne (by omega), ← h10w]; exact pw_g_eq (c := 125) (k := 7) h9I rfl rfl (by omega) (by omega)
        have e8 : pw_g h11 125 8 = 0 := by rw [← h11w]; exact pw_g_eq (c := 125) (k := 8) h10I rfl rfl (by omega) (by omega)
        have es : pw_g h11 127 (k17_1.toNat) = 0 := by rw [← h11w, pw_g_ne (by omega), ← h10w, pw_g_ne (by omega), ← h9w, pw_g_ne (by omega), ← h6w]; exact pw_g_eqA I17 rfl (by omega) (by omega) (by omega)
        have en : pw_NV (k17_1.toNat) h11 := fun j hj hq => by rw [← h11w, pw_gm_ne (by omega), ← h10w, pw_gm_ne (by omega), ← h9w, pw_gm_ne (by omega), ← h6w, pw_gm_ne (by omega)]; exact hx17_2 j hj (by rw [← hq, ← h11w, pw_g_ne (by omega), ← h10w, pw_g_ne (by omega), ← h9w, pw_g_ne (by omega), ← h6w, pw_g_ne (by omega)])
        exact ⟨h11I, h11F, ⟨k17_1.toNat, ⟨by omega, es, by omega, by omega, by omega, (pw_gI (c := 125) (k := 32) h11I rfl rfl).1⟩, e7, e8, en⟩, rfl⟩
      · intro hc12
        change ¬ (pw_g gh17 125 3 ≤ k17_2) at hc12
        refine pw_ld E (pc' := 26) (st' := [.ref 141]) rfl (fun _ => rfl) ?_
        refine pw_getR (b := 142) I17 E (c := 125) (k := 1) (pc' := 29) rfl rfl rfl rfl rfl rfl rfl ?_
        refine pw_ld E (pc' := 30) (st' := [pw_i k17_2, .ref 142]) rfl (fun _ => rfl) ?_
        refine pw_ald2 I17 E (c := 126) (pc' := 31) rfl rfl rfl (by decide) rfl (by decide) (by omega) (by omega) rfl (fun hf13a hf13b => ?_)
        refine pw_istn E (pc' := 32) (ls' := [some (.ref 141), some (pw_i k17_1), some (pw_i k17_2), some (pw_i (pw_g gh17 126 (k17_2.toNat))), k17_4, k17_5, none]) rfl rfl rfl rfl ?_
        refine pw_ld E (pc' := 33) (st' := [pw_i (pw_g gh17 126 (k17_2.toNat))]) rfl (fun _ => rfl) ?_
        refine pw_bip E (pc' := 35) rfl rfl (by decide) ?_
        refine pw_if2 E (pc' := 44) rfl (by decide) (by omega) (by omega) (by decide) (by decide) ?_ ?_
        · intro hc14
          change pw_g gh17 126 (k17_2.toNat) = (10 : Int) at hc14
          refine pw_inc E (pc' := 47) (ls' := [some (.ref 141), some (pw_i k17_1), some (pw_i (k17_2 + 1)), some (pw_i (pw_g gh17 126 (k17_2.toNat))), k17_4, k17_5, none]) rfl rfl rfl rfl ?_
          refine pw_goto E (pc' := 17) rfl (by decide) ?_
          exact ih17 _ (by omega) (k17_1) (k17_2 + 1) (some (pw_i (pw_g gh17 126 (k17_2.toNat)))) k17_4 k17_5 gh17 I17 E17 (by omega) (by omega) (by omega) (by omega) (by omega) (by omega) (by first | exact hx17_2 | exact pw_NV.st hx17_2 (by omega) (by omega) (by assumption) (by assumption) (by assumption) (by assumption) (by assumption) (by omega) (by omega) (by first | exact Or.inl (by decide) | exact Or.inr (by rw [pw_lToInt (by omega) (by omega)]; omega))) rfl
        · intro hc15
          change ¬ (pw_g gh17 126 (k17_2.toNat) = (10 : Int)) at hc15
          refine pw_ld E (pc' := 39) (st' := [pw_i (pw_g gh17 126 (k17_2.toNat))]) rfl (fun _ => rfl) ?_
          refine pw_bip E (pc' := 41) rfl rfl (by decide) ?_
          refine pw_if2 E (pc' := 50) rfl (by decide) (by omega) (by omega) (by decide) (by decide) ?_ ?_
          · intro hc16
            change pw_g gh17 126 (k17_2.toNat) ≠ (32 : Int) at hc16
            refine pw_ld E (pc' := 51) (st' := [pw_i k17_2]) rfl (fun _ => rfl) ?_
            refine pw_ist E (pc' := 53) (ls' := [some (.ref 141), some (pw_i k17_1), some (pw_i k17_2), some (pw_i (pw_g gh17 126 (k17_2.toNat))), some (pw_i k17_2), k17_5, none]) rfl rfl rfl rfl ?_
            refine pw_ld E (pc' := 54) (st' := [.long (Int64.ofInt 0)]) rfl (fun _ => rfl) ?_
            refine pw_lst E (pc' := 56) (ls' := [some (.ref 141), some (pw_i k17_1), some (pw_i k17_2), some (pw_i (pw_g gh17 126 (k17_2.toNat))), some (pw_i k17_2), some (.long (Int64.ofInt 0)), none]) rfl rfl rfl rfl ?_
            refine pw_ld E (pc' := 57) (st' := [.ref 141]) rfl (fun _ => rfl) ?_
            refine pw_getR (b := 144) I17 E (c := 125) (k := 5) (pc' := 60) rfl rfl rfl rfl rfl rfl rfl ?_
            refine pw_ld E (pc' := 61) (st' := [pw_i k17_1, .ref 144]) rfl (fun _ => rfl) ?_
            refine pw_ld E (pc' := 62) (st' := [pw_i k17_2, pw_i k17_1, .ref 144]) rfl (fun _ => rfl) ?_
            refine pw_ast0 I17 E (c := 128) (pc' := 63) rfl rfl rfl (by decide) rfl (by decide) (by omega) (by omega) rfl (by omega) (by omega) (by omega) (by omega) rfl ?_
            intro h17I h17E
            generalize h17w : pw_w gh17 128 (k17_1.toNat) (pw_i k17_2) = h17 at h17I h17E ⊢
            have h17F := E17.tr (h17E.wk (W' := [125, 127, 128, 129, 1002]) (by first | rfl | simp))
            have hc0 : pw_g h17 126 (k17_2).toNat = pw_g gh17 126 (k17_2).toNat := by rw [← h17w]; exact pw_g_ne (by omega)
            refine pw_ld E (pc' := 64) (st' := [pw_i (pw_g gh17 126 (k17_2.toNat))]) rfl (fun _ => rfl) ?_
            refine pw_call (m' := 239) (As := [pw_i (pw_g gh17 126 (k17_2.toNat))]) (rest := []) (ls'' := [some (pw_i (pw_g gh17 126 (k17_2.toNat)))]) (Nat.le_trans (by decide) hd) E rfl (fun _ => pw_iS rfl rfl rfl) (rfl : pm_ent 239 = some (1, 1, 12, 1, pmc_239)) rfl rfl (cm_239_r (pw_dp hd (by decide)) h17I (pw_g gh17 126 (k17_2.toNat)) (by omega) (by omega)) ?_
            rintro u19 v18 ⟨rfl, x20, rfl, hx20a, hx20b, hx20r⟩
            refine ⟨_, rfl, ?_⟩
            show pw X d h17 238 67 [some (.ref 141), some (pw_i k17_1), some (pw_i k17_2), some (pw_i (pw_g gh17 126 (k17_2.toNat))), some (pw_i k17_2), some (.long (Int64.ofInt 0)), none] [pw_i x20] _
            change (x20 = 1 ∧ 97 ≤ (pw_g gh17 126 (k17_2.toNat)) ∧ (pw_g gh17 126 (k17_2.toNat)) ≤ 122) ∨ (x20 = 0 ∧ ¬ (97 ≤ (pw_g gh17 126 (k17_2.toNat)) ∧ (pw_g gh17 126 (k17_2.toNat)) ≤ 122)) at hx20r
            rcases (by omega : x20 = 1 ∨ x20 = 0) with hb21 | hb21
            · skip
              refine pw_if E (pc' := 152) rfl (by decide) (by omega) (by omega) ?_ ?_
              · intro hc22
                change x20 = (0 : Int) at hc22
                exfalso; omega
              · intro hc23
                change ¬ (x20 = (0 : Int)) at hc23
                have L70 : ∀ (n70 : Nat) (k70_2 : Int) (k70_5 : Int64), 0 ≤ k70_2 → k70_2 ≤ 1000 → k17_2 < k70_2 ∨ (k70_2 = k17_2 ∧ 97 ≤ pw_g h17 126 (k70_2).toNat ∧ pw_g h17 126 (k70_2).toNat ≤ 122) → k17_2 < pw_g h17 125 3 → k70_2 ≤ pw_g h17 125 3 → k17_2 ≤ k70_2 → (1000 - k70_2).toNat = n70 → pw X d h17 238 70 [some (.ref 141), some (pw_i k17_1), some (pw_i k70_2), some (pw_i (pw_g gh17 126 (k17_2.toNat))), some (pw_i k17_2), some (.long k70_5), none] [] (fun h' v => pw_I h' ∧ pw_E [125, 127, 128, 129, 1002] h h' ∧ (∃ n : Nat, pw_A n h' ∧ pw_g h' 125 7 = 0 ∧ pw_g h' 125 8 = 0 ∧ pw_NV n h') ∧ (v = .inl none)) := by
                  intro n70
                  induction n70 using Nat.strongRecOn with
                  | ind n70 ih70 =>
                    intro k70_2 k70_5 k70_2a k70_2b hx70_0 hx70_1 hx70_2 hx70_3 hm70
                    refine pw_ld E (pc' := 71) (st' := [pw_i k70_2]) rfl (fun _ => rfl) ?_
                    refine pw_ld E (pc' := 72) (st' := [.ref 141, pw_i k70_2]) rfl (fun _ => rfl) ?_
                    refine pw_getI2 h17I E (c := 125) (k := 3) (pc' := 75) rfl rfl rfl rfl rfl rfl (fun hf24a hf24b => ?_)
                    refine pw_if2 E (pc' := 129) rfl (by decide) (by omega) (by omega) (by omega) (by omega) ?_ ?_
                    · intro hc25
                      change pw_g h17 125 3 ≤ k70_2 at hc25
                      refine pw_ld E (pc' := 130) (st' := [.ref 141]) rfl (fun _ => rfl) ?_
                      refine pw_getR (b := 143) h17I E (c := 125) (k := 4) (pc' := 133) rfl rfl rfl rfl rfl rfl rfl ?_
                      refine pw_ld E (pc' := 134) (st' := [pw_i k17_1, .ref 143]) rfl (fun _ => rfl) ?_
                      refine pw_ld E (pc' := 135) (st' := [pw_i k70_2, pw_i k17_1, .ref 143]) rfl (fun _ => rfl) ?_
                      refine pw_ld E (pc' := 137) (st' := [pw_i k17_2, pw_i k70_2, pw_i k17_1, .ref 143]) rfl (fun _ => rfl) ?_
                      refine pw_sub E (pc' := 138) rfl rfl ?_
                      refine pw_bip E (pc' := 140) rfl rfl (by decide) ?_
                      refine pw_if2 E (pc' := 147) rfl (by decide) (by omega) (by omega) (by decide) (by decide) ?_ ?_
                      · intro hc26
                        change k70_2 - k17_2 ≤ (8 : Int) at hc26
                        refine pw_ld E (pc' := 148) (st' := [pw_i 1, pw_i k17_1, .ref 143]) rfl (fun _ => rfl) ?_
                        refine pw_ast0 h17I E (c := 127) (pc' := 149) rfl rfl rfl (by decide) rfl (by decide) (by omega) (by omega) rfl (by omega) (by omega) (by omega) (by omega) rfl ?_
                        intro h27I h27E
                        generalize h27w : pw_w h17 127 (k17_1.toNat) (pw_i 1) = h27 at h27I h27E ⊢
                        have h27F := h17F.tr (h27E.wk (W' := [125, 127, 128, 129, 1002]) (by first | rfl | simp))
                        refine pw_goto E (pc' := 265) rfl (by decide) ?_
                        refine pw_ld E (pc' := 266) (st' := [.ref 141]) rfl (fun _ => rfl) ?_
                        refine pw_getR (b := 145) h27I E (c := 125) (k := 6) (pc' := 269) rfl rfl rfl rfl rfl rfl rfl ?_
                        refine pw_ld E (pc' := 270) (st' := [pw_i k17_1, .ref 145]) rfl (fun _ => rfl) ?_
                        refine pw_ld E (pc' := 272) (st' := [.long k70_5, pw_i k17_1, .ref 145]) rfl (fun _ => rfl) ?_
                        refine pw_last h27I E (c := 129) (pc' := 273) rfl rfl rfl (by decide) (by omega) (by omega) rfl ?_
                        intro h28I h28E
                        generalize h28w : pw_w h27 129 (k17_1.toNat) (.long k70_5) = h28 at h28I h28E ⊢
                        have h28F := h27F.tr (h28E.wk (W' := [125, 127, 128, 129, 1002]) (by first | rfl | simp))
                        refine pw_inc E (pc' := 276) (ls' := [some (.ref 141), some (pw_i (k17_1 + 1)), some (pw_i k70_2), some (pw_i (pw_g gh17 126 (k17_2.toNat))), some (pw_i k17_2), some (.long k70_5), none]) rfl rfl rfl rfl ?_
                        refine pw_goto E (pc' := 17) rfl (by decide) ?_
                        have he29 : pw_g h28 125 3 = pw_g h27 125 3 := by rw [← h28w]; exact pw_g_ne (by omega)
                        have he30 : pw_g h27 125 3 = pw_g h17 125 3 := by rw [← h27w]; exact pw_g_ne (by omega)
                        exact ih17 _ (by omega) (k17_1 + 1) (k70_2) (some (pw_i (pw_g gh17 126 (k17_2.toNat)))) (some (pw_i k17_2)) (some (.long k70_5)) h28 h28I h28F (by omega) (by omega) (by omega) (by omega) (by omega) (by omega) (by first | exact hx17_2 | exact pw_NV.st hx17_2 (by omega) (by omega) (by assumption) (by assumption) (by assumption) (by assumption) (by assumption) (by omega) (by omega) (by first | exact Or.inl (by decide) | exact Or.inr (by rw [pw_lToInt (by omega) (by omega)]; omega))) rfl
                      · intro hc31
                        change ¬ (k70_2 - k17_2 ≤ (8 : Int)) at hc31
                        refine pw_ld E (pc' := 144) (st' := [pw_i 4, pw_i k17_1, .ref 143]) rfl (fun _ => rfl) ?_
                        refine pw_goto E (pc' := 148) rfl (by decide) ?_
                        refine pw_ast0 h17I E (c := 127) (pc' := 149) rfl rfl rfl (by decide) rfl (by decide) (by omega) (by omega) rfl (by omega) (by omega) (by omega) (by omega) rfl ?_
                        intro h32I h32E
                        generalize h32w : pw_w h17 127 (k17_1.toNat) (pw_i 4) = h32 at h32I h32E ⊢
                        have h32F := h17F.tr (h32E.wk (W' := [125, 127, 128, 129, 1002]) (by first | rfl | simp))
                        refine pw_goto E (pc' := 265) rfl (by decide) ?_
                        refine pw_ld E (pc' := 266) (st' := [.ref 141]) rfl (fun _ => rfl) ?_
                        refine pw_getR (b := 145) h32I E (c := 125) (k := 6) (pc' := 269) rfl rfl rfl rfl rfl rfl rfl ?_
                        refine pw_ld E (pc' := 270) (st' := [pw_i k17_1, .ref 145]) rfl (fun _ => rfl) ?_
                        refine pw_ld E (pc' := 272) (st' := [.long k70_5, pw_i k17_1, .ref 145]) rfl (fun _ => rfl) ?_
                        refine pw_last h32I E (c := 129) (pc' := 273) rfl rfl rfl (by decide) (by omega) (by omega) rfl ?_
                        intro h33I h33E
                        generalize h33w : pw_w h32 129 (k17_1.toNat) (.long k70_5) = h33 at h33I h33E ⊢
                        have h33F := h32F.tr (h33E.wk (W' := [125, 127, 128, 129, 1002]) (by first | rfl | simp))
                        refine pw_inc E (pc' := 276) (ls' := [some (.ref 141), some (pw_i (k17_1 + 1)), some (pw_i k70_2), some (pw_i (pw_g gh17 126 (k17_2.toNat))), some (pw_i k17_2), some (.long k70_5), none]) rfl rfl rfl rfl ?_
                        refine pw_goto E (pc' := 17) rfl (by decide) ?_
                        have he34 : pw_g h33 125 3 = pw_g h32 125 3 := by rw [← h33w]; exact pw_g_ne (by omega)
                        have he35 : pw_g h32 125 3 = pw_g h17 125 3 := by rw [← h32w]; exact pw_g_ne (by omega)
                        exact ih17 _ (by omega) (k17_1 + 1) (k70_2) (some (pw_i (pw_g gh17 126 (k17_2.toNat)))) (some (pw_i k17_2)) (some (.long k70_5)) h33 h33I h33F (by omega) (by omega) (by omega) (by omega) (by omega) (by omega) (by first | exact hx17_2 | exact pw_NV.st hx17_2 (by omega) (by omega) (by assumption) (by assumption) (by assumption) (by assumption) (by assumption) (by omega) (by omega) (by first | exact Or.inl (by decide) | exact Or.inr (by rw [pw_lToInt (by omega) (by omega)]; omega))) rfl
                    · intro hc36
                      change ¬ (pw_g h17 125 3 ≤ k70_2) at hc36
                      refine pw_ld E (pc' := 79) (st' := [.ref 141]) rfl (fun _ => rfl) ?_
                      refine pw_getR (b := 142) h17I E (c := 125) (k := 1) (pc' := 82) rfl rfl rfl rfl rfl rfl rfl ?_
                      refine pw_ld E (pc' := 83) (st' := [pw_i k70_2, .ref 142]) rfl (fun _ => rfl) ?_
                      refine pw_ald2 h17I E (c := 126) (pc' := 84) rfl rfl rfl (by decide) rfl (by decide) (by omega) (by omega) rfl (fun hf37a hf37b => ?_)
                      refine pw_call (m' := 239) (As := [pw_i (pw_g h17 126 (k70_2.toNat))]) (rest := []) (ls'' := [some (pw_i (pw_g h17 126 (k70_2.toNat)))]) (Nat.le_trans (by decide) hd) E rfl (fun _ => pw_iS rfl rfl rfl) (rfl : pm_ent 239 = some (1, 1, 12, 1, pmc_239)) rfl rfl (cm_239_r (pw_dp hd (by decide)) h17I (pw_g h17 126 (k70_2.toNat)) (by omega) (by omega)) ?_
                      rintro u39 v38 ⟨rfl, x40, rfl, hx40a, hx40b, hx40r⟩
                      refine ⟨_, rfl, ?_⟩
                      show pw X d h17 238 87 [some (.ref 141), some (pw_i k17_1), some (pw_i k70_2), some (pw_i (pw_g gh17 126 (k17_2.toNat))), some (pw_i k17_2), some (.long k70_5), none] [pw_i x40] _
                      change (x40 = 1 ∧ 97 ≤ (pw_g h17 126 (k70_2.toNat)) ∧ (pw_g h17 126 (k70_2.toNat)) ≤ 122) ∨ (x40 = 0 ∧ ¬ (97 ≤ (pw_g h17 126 (k70_2.toNat)) ∧ (pw_g h17 126 (k70_2.toNat)) ≤ 122)) at hx40r
                      rcases (by omega : x40 = 1 ∨ x40 = 0) with hb41 | hb41
                      · skip
                        refine pw_if E (pc' := 129) rfl (by decide) (by omega) (by omega) ?_ ?_
                        · intro hc42
                          change x40 = (0 : Int) at hc42
                          exfalso; omega
                        · intro hc43
                          change ¬ (x40 = (0 : Int)) at hc43
                          refine pw_ld E (pc' := 91) (st' := [pw_i k70_2]) rfl (fun _ => rfl) ?_
                          refine pw_ld E (pc' := 93) (st' := [pw_i k17_2, pw_i k70_2]) rfl (fun _ => rfl) ?_
                          refine pw_sub E (pc' := 94) rfl rfl ?_
                          refine pw_bip E (pc' := 96) rfl rfl (by decide) ?_
                          refine pw_if2 E (pc' := 119) rfl (by decide) (by omega) (by omega) (by decide) (by decide) ?_ ?_
                          · intro hc44
                            change (8 : Int) ≤ k70_2 - k17_2 at hc44
                            refine pw_ld E (pc' := 121) (st' := [.long k70_5]) rfl (fun _ => rfl) ?_
                            refine pw_lst E (pc' := 123) (ls' := [some (.ref 141), some (pw_i k17_1), some (pw_i k70_2), some (pw_i (pw_g gh17 126 (k17_2.toNat))), some (pw_i k17_2), some (.long k70_5), none]) rfl rfl rfl rfl ?_
                            refine pw_inc E (pc' := 126) (ls' := [some (.ref 141), some (pw_i k17_1), some (pw_i (k70_2 + 1)), some (pw_i (pw_g gh17 126 (k17_2.toNat))), some (pw_i k17_2), some (.long k70_5), none]) rfl rfl rfl rfl ?_
                            refine pw_goto E (pc' := 70) rfl (by decide) ?_
                            exact ih70 _ (by omega) (k70_2 + 1) (k70_5)  (by omega) (by omega) (by omega) (by omega) (by omega) (by omega) rfl
                          · intro hc45
                            change ¬ ((8 : Int) ≤ k70_2 - k17_2) at hc45
                            refine pw_ld E (pc' := 102) (st' := [.long (Int64.ofInt 37)]) rfl (fun _ => rfl) ?_
                            refine pw_ld E (pc' := 104) (st' := [.long k70_5, .long (Int64.ofInt 37)]) rfl (fun _ => rfl) ?_
                            refine pw_ld E (pc' := 105) (st' := [.long ((Int64.ofInt 37) * k70_5)]) rfl (fun _ => rfl) ?_
                            refine pw_ld E (pc' := 106) (st' := [.ref 141, .long ((Int64.ofInt 37) * k70_5)]) rfl (fun _ => rfl) ?_
                            refine pw_getR (b := 142) h17I E (c := 125) (k := 1) (pc' := 109) rfl rfl rfl rfl rfl rfl rfl ?_
                            refine pw_ld E (pc' := 110) (st' := [pw_i k70_2, .ref 142, .long ((Int64.ofInt 37) * k70_5)]) rfl (fun _ => rfl) ?_
                            refine pw_ald2 h17I E (c := 126) (pc' := 111) rfl rfl rfl (by decide) rfl (by decide) (by omega) (by omega) rfl (fun hf46a hf46b => ?_)
                            refine pw_call (m' := 240) (As := [pw_i (pw_g h17 126 (k70_2.toNat))]) (rest := [.long ((Int64.ofInt 37) * k70_5)]) (ls'' := [some (pw_i (pw_g h17 126 (k70_2.toNat)))]) (Nat.le_trans (by decide) hd) E rfl (fun _ => pw_iS rfl rfl rfl) (rfl : pm_ent 240 = some (1, 1, 12, 0, pmc_240)) rfl rfl (cm_240 (pw_dp hd (by decide)) h17I (pw_g h17 126 (k70_2.toNat)) (by omega) (by omega)) ?_
                            rintro u48 v47 ⟨rfl, x49, rfl, hx49a, hx49b⟩
                            refine ⟨_, rfl, ?_⟩
                            show pw X d h17 238 114 [some (.ref 141), some (pw_i k17_1), some (pw_i k70_2), some (pw_i (pw_g gh17 126 (k17_2.toNat))), some (pw_i k17_2), some (.long k70_5), none] [pw_i x49, .long ((Int64.ofInt 37) * k70_5)] _
                            refine pw_i2l E (pc' := 115) rfl rfl (by omega) (by omega) ?_
                            refine pw_ld E (pc' := 116) (st' := [.long (((Int64.ofInt 37) * k70_5) + (Int64.ofInt x49))]) rfl (fun _ => rfl) ?_
                            refine pw_goto E (pc' := 121) rfl (by decide) ?_
                            refine pw_lst E (pc' := 123) (ls' := [some (.ref 141), some (pw_i k17_1), some (pw_i k70_2), some (pw_i (pw_g gh17 126 (k17_2.toNat))), some (pw_i k17_2), some (.long (((Int64.ofInt 37) * k70_5) + (Int64.ofInt x49))), none]) rfl rfl rfl rfl ?_
                            refine pw_inc E (pc' := 126) (ls' := [some (.ref 141), some (pw_i k17_1), some (pw_i (k70_2 + 1)), some (pw_i (pw_g gh17 126 (k17_2.toNat))), some (pw_i k17_2), some (.long (((Int64.ofInt 37) * k70_5) + (Int64.ofInt x49))), none]) rfl rfl rfl rfl ?_
                            refine pw_goto E (pc' := 70) rfl (by decide) ?_
                            exact ih70 _ (by omega) (k70_2 + 1) (((Int64.ofInt 37) * k70_5) + (Int64.ofInt x49))  (by omega) (by omega) (by omega) (by omega) (by omega) (by omega) rfl
                      · skip
                        refine pw_if E (pc' := 129) rfl (by decide) (by omega) (by omega) ?_ ?_
                        · intro hc51
                          change x40 = (0 : Int) at hc51
                          refine pw_ld E (pc' := 130) (st' := [.ref 141]) rfl (fun _ => rfl) ?_
                          refine pw_getR (b := 143) h17I E (c := 125) (k := 4) (pc' := 133) rfl rfl rfl rfl rfl rfl rfl ?_
                          refine pw_ld E (pc' := 134) (st' := [pw_i k17_1, .ref 143]) rfl (fun _ => rfl) ?_
                          refine pw_ld E (pc' := 135) (st' := [pw_i k70_2, pw_i k17_1, .ref 143]) rfl (fun _ => rfl) ?_
                          refine pw_ld E (pc' := 137) (st' := [pw_i k17_2, pw_i k70_2, pw_i k17_1, .ref 143]) rfl (fun _ => rfl) ?_
                          refine pw_sub E (pc' := 138) rfl rfl ?_
                          refine pw_bip E (pc' := 140) rfl rfl (by decide) ?_
                          refine pw_if2 E (pc' := 147) rfl (by decide) (by omega) (by omega) (by decide) (by decide) ?_ ?_
                          · intro hc52
                            change k70_2 - k17_2 ≤ (8 : Int) at hc52
                            refine pw_ld E (pc' := 148) (st' := [pw_i 1, pw_i k17_1, .ref 143]) rfl (fun _ => rfl) ?_
                            refine pw_ast0 h17I E (c := 127) (pc' := 149) rfl rfl rfl (by decide) rfl (by decide) (by omega) (by omega) rfl (by omega) (by omega) (by omega) (by omega) rfl ?_
                            intro h53I h53E
                            generalize h53w : pw_w h17 127 (k17_1.toNat) (pw_i 1) = h53 at h53I h53E ⊢
                            have h53F := h17F.tr (h53E.wk (W' := [125, 127, 128, 129, 1002]) (by first | rfl | simp))
                            refine pw_goto E (pc' := 265) rfl (by decide) ?_
                            refine pw_ld E (pc' := 266) (st' := [.ref 141]) rfl (fun _ => rfl) ?_
                            refine pw_getR (b := 145) h53I E (c := 125) (k := 6) (pc' := 269) rfl rfl rfl rfl rfl rfl rfl ?_
                            refine pw_ld E (pc' := 270) (st' := [pw_i k17_1, .ref 145]) rfl (fun _ => rfl) ?_
                            refine pw_ld E (pc' := 272) (st' := [.long k70_5, pw_i k17_1, .ref 145]) rfl (fun _ => rfl) ?_
                            refine pw_last h53I E (c := 129) (pc' := 273) rfl rfl rfl (by decide) (by omega) (by omega) rfl ?_
                            intro h54I h54E
                            generalize h54w : pw_w h53 129 (k17_1.toNat) (.long k70_5) = h54 at h54I h54E ⊢
                            have h54F := h53F.tr (h54E.wk (W' := [125, 127, 128, 129, 1002]) (by first | rfl | simp))
                            refine pw_inc E (pc' := 276) (ls' := [some (.ref 141), some (pw_i (k17_1 + 1)), some (pw_i k70_2), some (pw_i (pw_g gh17 126 (k17_2.toNat))), some (pw_i k17_2), some (.long k70_5), none]) rfl rfl rfl rfl ?_
                            refine pw_goto E (pc' := 17) rfl (by decide) ?_
                            have he55 : pw_g h54 125 3 = pw_g h53 125 3 := by rw [← h54w]; exact pw_g_ne (by omega)
                            have he56 : pw_g h53 125 3 = pw_g h17 125 3 := by rw [← h53w]; exact pw_g_ne (by omega)
                            exact ih17 _ (by omega) (k17_1 + 1) (k70_2) (some (pw_i (pw_g gh17 126 (k17_2.toNat)))) (some (pw_i k17_2)) (some (.long k70_5)) h54 h54I h54F (by omega) (by omega) (by omega) (by omega) (by omega) (by omega) (by first | exact hx17_2 | exact pw_NV.st hx17_2 (by omega) (by omega) (by assumption) (by assumption) (by assumption) (by assumption) (by assumption) (by omega) (by omega) (by first | exact Or.inl (by decide) | exact Or.inr (by rw [pw_lToInt (by omega) (by omega)]; omega))) rfl
                          · intro hc57
                            change ¬ (k70_2 - k17_2 ≤ (8 : Int)) at hc57
                            refine pw_ld E (pc' := 144) (st' := [pw_i 4, pw_i k17_1, .ref 143]) rfl (fun _ => rfl) ?_
                            refine pw_goto E (pc' := 148) rfl (by decide) ?_
                            refine pw_ast0 h17I E (c := 127) (pc' := 149) rfl rfl rfl (by decide) rfl (by decide) (by omega) (by omega) rfl (by omega) (by omega) (by omega) (by omega) rfl ?_
                            intro h58I h58E
                            generalize h58w : pw_w h17 127 (k17_1.toNat) (pw_i 4) = h58 at h58I h58E ⊢
                            have h58F := h17F.tr (h58E.wk (W' := [125, 127, 128, 129, 1002]) (by first | rfl | simp))
                            refine pw_goto E (pc' := 265) rfl (by decide) ?_
                            refine pw_ld E (pc' := 266) (st' := [.ref 141]) rfl (fun _ => rfl) ?_
                            refine pw_getR (b := 145) h58I E (c := 125) (k := 6) (pc' := 269) rfl rfl rfl rfl rfl rfl rfl ?_
                            refine pw_ld E (pc' := 270) (st' := [pw_i k17_1, .ref 145]) rfl (fun _ => rfl) ?_
                            refine pw_ld E (pc' := 272) (st' := [.long k70_5, pw_i k17_1, .ref 145]) rfl (fun _ => rfl) ?_
                            refine pw_last h58I E (c := 129) (pc' := 273) rfl rfl rfl (by decide) (by omega) (by omega) rfl ?_
                            intro h59I h59E
                            generalize h59w : pw_w h58 129 (k17_1.toNat) (.long k70_5) = h59 at h59I h59E ⊢
                            have h59F := h58F.tr (h59E.wk (W' := [125, 127, 128, 129, 1002]) (by first | rfl | simp))
                            refine pw_inc E (pc' := 276) (ls' := [some (.ref 141), some (pw_i (k17_1 + 1)), some (pw_i k70_2), some (pw_i (pw_g gh17 126 (k17_2.toNat))), some (pw_i k17_2), some (.long k70_5), none]) rfl rfl rfl rfl ?_
                            refine pw_goto E (pc' := 17) rfl (by decide) ?_
                            have he60 : pw_g h59 125 3 = pw_g h58 125 3 := by rw [← h59w]; exact pw_g_ne (by omega)
                            have he61 : pw_g h58 125 3 = pw_g h17 125 3 := by rw [← h58w]; exact pw_g_ne (by omega)
                            exact ih17 _ (by omega) (k17_1 + 1) (k70_2) (some (pw_i (pw_g gh17 126 (k17_2.toNat)))) (some (pw_i k17_2)) (some (.long k70_5)) h59 h59I h59F (by omega) (by omega) (by omega) (by omega) (by omega) (by omega) (by first | exact hx17_2 | exact pw_NV.st hx17_2 (by omega) (by omega) (by assumption) (by assumption) (by assumption) (by assumption) (by assumption) (by omega) (by omega) (by first | exact Or.inl (by decide) | exact Or.inr (by rw [pw_lToInt (by omega) (by omega)]; omega))) rfl
                        · intro hc62
                          change ¬ (x40 = (0 : Int)) at hc62
                          exfalso; omega
                have he63 : pw_g h17 125 3 = pw_g gh17 125 3 := by rw [← h17w]; exact pw_g_ne (by omega)
                exact L70 _ (k17_2) (Int64.ofInt 0)  (by omega) (by omega) (by omega) (by omega) (by omega) (by omega) rfl
            · skip
              refine pw_if E (pc' := 152) rfl (by decide) (by omega) (by omega) ?_ ?_
              · intro hc65
                change x20 = (0 : Int) at hc65
                refine pw_ld E (pc' := 153) (st' := [pw_i (pw_g gh17 126 (k17_2.toNat))]) rfl (fun _ => rfl) ?_
                refine pw_call (m' := 241) (As := [pw_i (pw_g gh17 126 (k17_2.toNat))]) (rest := []) (ls'' := [some (pw_i (pw_g gh17 126 (k17_2.toNat)))]) (Nat.le_trans (by decide) hd) E rfl (fun _ => pw_iS rfl rfl rfl) (rfl : pm_ent 241 = some (1, 1, 12, 1, pmc_241)) rfl rfl (cm_241_r (pw_dp hd (by decide)) h17I (pw_g gh17 126 (k17_2.toNat)) (by omega) (by omega)) ?_
                rintro u67 v66 ⟨rfl, x68, rfl, hx68a, hx68b, hx68r⟩
                refine ⟨_, rfl, ?_⟩
                show pw X d h17 238 156 [some (.ref 141), some (pw_i k17_1), some (pw_i k17_2), some (pw_i (pw_g gh17 126 (k17_2.toNat))), some (pw_i k17_2), some (.long (Int64.ofInt 0)), none] [pw_i x68] _
                change (x68 = 1 ∧ 48 ≤ (pw_g gh17 126 (k17_2.toNat)) ∧ (pw_g gh17 126 (k17_2.toNat)) ≤ 57) ∨ (x68 = 0 ∧ ¬ (48 ≤ (pw_g gh17 126 (k17_2.toNat)) ∧ (pw_g gh17 126 (k17_2.toNat)) ≤ 57)) at hx68r
                rcases (by omega : x68 = 1 ∨ x68 = 0) with hb69 | hb69
                · skip
                  refine pw_if E (pc' := 240) rfl (by decide) (by omega) (by omega) ?_ ?_
                  · intro hc70
                    change x68 = (0 : Int) at hc70
                    exfalso; omega
                  · intro hc71
                    change ¬ (x68 = (0 : Int)) at hc71
                    have L159 : ∀ (n159 : Nat) (k159_2 : Int) (k159_5 : Int), 0 ≤ k159_2 → k159_2 ≤ 1000 → 0 ≤ k159_5 → k159_5 ≤ 9999 → k17_2 < k159_2 ∨ (k159_2 = k17_2 ∧ 48 ≤ pw_g h17 126 (k159_2).toNat ∧ pw_g h17 126 (k159_2).toNat ≤ 57) → k17_2 < pw_g h17 125 3 → k159_2 ≤ pw_g h17 125 3 → k17_2 ≤ k159_2 → (k159_2 = k17_2 ∧ k159_5 = 0) ∨ (k159_2 = k17_2 + 1 ∧ k159_5 ≤ 9) ∨ (k159_2 = k17_2 + 2 ∧ k159_5 ≤ 99) ∨ (k159_2 = k17_2 + 3 ∧ k159_5 ≤ 999) ∨ k17_2 + 4 ≤ k159_2 → (1000 - k159_2).toNat = n159 → pw X d h17 238 159 [some (.ref 141), some (pw_i k17_1), some (pw_i k159_2), some (pw_i (pw_g gh17 126 (k17_2.toNat))), some (pw_i k17_2), some (.long (Int64.ofInt k159_5)), none] [] (fun h' v => pw_I h' ∧ pw_E [125, 127, 128, 129, 1002] h h' ∧ (∃ n : Nat, pw_A n h' ∧ pw_g h' 125 7 = 0 ∧ pw_g h' 125 8 = 0 ∧ pw_NV n h') ∧ (v = .inl none)) := by
                      intro n159
                      induction n159 using Nat.strongRecOn with
                      | ind n159 ih159 =>
                        intro k159_2 k159_5 k159_2a k159_2b k159_5a k159_5b hx159_0 hx159_1 hx159_2 hx159_3 hx159_4 hm159
                        refine pw_ld E (pc' := 160) (st' := [pw_i k159_2]) rfl (fun _ => rfl) ?_
                        refine pw_ld E (pc' := 161) (st' := [.ref 141, pw_i k159_2]) rfl (fun _ => rfl) ?_
                        refine pw_getI2 h17I E (c := 125) (k := 3) (pc' := 164) rfl rfl rfl rfl rfl rfl (fun hf72a hf72b => ?_)
                        refine pw_if2 E (pc' := 218) rfl (by decide) (by omega) (by omega) (by omega) (by omega) ?_ ?_
                        · intro hc73
                          change pw_g h17 125 3 ≤ k159_2 at hc73
                          refine pw_ld E (pc' := 219) (st' := [.ref 141]) rfl (fun _ => rfl) ?_
                          refine pw_getR (b := 143) h17I E (c := 125) (k := 4) (pc' := 222) rfl rfl rfl rfl rfl rfl rfl ?_
                          refine pw_ld E (pc' := 223) (st' := [pw_i k17_1, .ref 143]) rfl (fun _ => rfl) ?_
                          refine pw_ld E (pc' := 224) (st' := [pw_i k159_2, pw_i k17_1, .ref 143]) rfl (fun _ => rfl) ?_
                          refine pw_ld E (pc' := 226) (st' := [pw_i k17_2, pw_i k159_2, pw_i k17_1, .ref 143]) rfl (fun _ => rfl) ?_
                          refine pw_sub E (pc' := 227) rfl rfl ?_
                          refine pw_ld E (pc' := 228) (st' := [pw_i 4, pw_i (k159_2 - k17_2), pw_i k17_1, .ref 143]) rfl (fun _ => rfl) ?_
                          refine pw_if2 E (pc' := 235) rfl (by decide) (by omega) (by omega) (by decide) (by decide) ?_ ?_
                          · intro hc74
                            change k159_2 - k17_2 ≤ (4 : Int) at hc74
                            refine pw_ld E (pc' := 236) (st' := [pw_i 2, pw_i k17_1, .ref 143]) rfl (fun _ => rfl) ?_
                            refine pw_ast0 h17I E (c := 127) (pc' := 237) rfl rfl rfl (by decide) rfl (by decide) (by omega) (by omega) rfl (by omega) (by omega) (by omega) (by omega) rfl ?_
                            intro h75I h75E
                            generalize h75w : pw_w h17 127 (k17_1.toNat) (pw_i 2) = h75 at h75I h75E ⊢
                            have h75F := h17F.tr (h75E.wk (W' := [125, 127, 128, 129, 1002]) (by first | rfl | simp))
                            refine pw_goto E (pc' := 265) rfl (by decide) ?_
                            refine pw_ld E (pc' := 266) (st' := [.ref 141]) rfl (fun _ => rfl) ?_
                            refine pw_getR (b := 145) h75I E (c := 125) (k := 6) (pc' := 269) rfl rfl rfl rfl rfl rfl rfl ?_
                            refine pw_ld E (pc' := 270) (st' := [pw_i k17_1, .ref 145]) rfl (fun _ => rfl) ?_
                            refine pw_ld E (pc' := 272) (st' := [.long (Int64.ofInt k159_5), pw_i k17_1, .ref 145]) rfl (fun _ => rfl) ?_
                            refine pw_last h75I E (c := 129) (pc' := 273) rfl rfl rfl (by decide) (by omega) (by omega) rfl ?_
                            intro h76I h76E
                            generalize h76w : pw_w h75 129 (k17_1.toNat) (.long (Int64.ofInt k159_5)) = h76 at h76I h76E ⊢
                            have h76F := h75F.tr (h76E.wk (W' := [125, 127, 128, 129, 1002]) (by first | rfl | simp))
                            refine pw_inc E (pc' := 276) (ls' := [some (.ref 141), some (pw_i (k17_1 + 1)), some (pw_i k159_2), some (pw_i (pw_g gh17 126 (k17_2.toNat))), some (pw_i k17_2), some (.long (Int64.ofInt k159_5)), none]) rfl rfl rfl rfl ?_
                            refine pw_goto E (pc' := 17) rfl (by decide) ?_
                            have he77 : pw_g h76 125 3 = pw_g h75 125 3 := by rw [← h76w]; exact pw_g_ne (by omega)
                            have he78 : pw_g h75 125 3 = pw_g h17 125 3 := by rw [← h75w]; exact pw_g_ne (by omega)
                            exact ih17 _ (by omega) (k17_1 + 1) (k159_2) (some (pw_i (pw_g gh17 126 (k17_2.toNat)))) (some (pw_i k17_2)) (some (.long (Int64.ofInt k159_5))) h76 h76I h76F (by omega) (by omega) (by omega) (by omega) (by omega) (by omega) (by first | exact hx17_2 | exact pw_NV.st hx17_2 (by omega) (by omega) (by assumption) (by assumption) (by assumption) (by assumption) (by assumption) (by omega) (by omega) (by first | exact Or.inl (by decide) | exact Or.inr (by rw [pw_lToInt (by omega) (by omega)]; omega))) rfl
                          · intro hc79
                            change ¬ (k159_2 - k17_2 ≤ (4 : Int)) at hc79
                            refine pw_ld E (pc' := 232) (st' := [pw_i 4, pw_i k17_1, .ref 143]) rfl (fun _ => rfl) ?_
                            refine pw_goto E (pc' := 236) rfl (by decide) ?_
                            refine pw_ast0 h17I E (c := 127) (pc' := 237) rfl rfl rfl (by decide) rfl (by decide) (by omega) (by omega) rfl (by omega) (by omega) (by omega) (by omega) rfl ?_
                            intro h80I h80E
                            generalize h80w : pw_w h17 127 (k17_1.toNat) (pw_i 4) = h80 at h80I h80E ⊢
                            have h80F := h17F.tr (h80E.wk (W' := [125, 127, 128, 129, 1002]) (by first | rfl | simp))
                            refine pw_goto E (pc' := 265) rfl (by decide) ?_
                            refine pw_ld E (pc' := 266) (st' := [.ref 141]) rfl (fun _ => rfl) ?_
                            refine pw_getR (b := 145) h80I E (c := 125) (k := 6) (pc' := 269) rfl rfl rfl rfl rfl rfl rfl ?_
                            refine pw_ld E (pc' := 270) (st' := [pw_i k17_1, .ref 145]) rfl (fun _ => rfl) ?_
                            refine pw_ld E (pc' := 272) (st' := [.long (Int64.ofInt k159_5), pw_i k17_1, .ref 145]) rfl (fun _ => rfl) ?_
                            refine pw_last h80I E (c := 129) (pc' := 273) rfl rfl rfl (by decide) (by omega) (by omega) rfl ?_
                            intro h81I h81E
                            generalize h81w : pw_w h80 129 (k17_1.toNat) (.long (Int64.ofInt k159_5)) = h81 at h81I h81E ⊢
                            have h81F := h80F.tr (h81E.wk (W' := [125, 127, 128, 129, 1002]) (by first | rfl | simp))
                            refine pw_inc E (pc' := 276) (ls' := [some (.ref 141), some (pw_i (k17_1 + 1)), some (pw_i k159_2), some (pw_i (pw_g gh17 126 (k17_2.toNat))), some (pw_i k17_2), some (.long (Int64.ofInt k159_5)), none]) rfl rfl rfl rfl ?_
                            refine pw_goto E (pc' := 17) rfl (by decide) ?_
                            have he82 : pw_g h81 125 3 = pw_g h80 125 3 := by rw [← h81w]; exact pw_g_ne (by omega)
                            have he83 : pw_g h80 125 3 = pw_g h17 125 3 := by rw [← h80w]; exact pw_g_ne (by omega)
                            exact ih17 _ (by omega) (k17_1 + 1) (k159_2) (some (pw_i (pw_g gh17 126 (k17_2.toNat)))) (some (pw_i k17_2)) (some (.long (Int64.ofInt k159_5))) h81 h81I h81F (by omega) (by omega) (by omega) (by omega) (by omega) (by omega) (by first | exact hx17_2 | exact pw_NV.st hx17_2 (by omega) (by omega) (by assumption) (by assumption) (by assumption) (by assumption) (by assumption) (by omega) (by omega) (by first | exact Or.inl (by decide) | exact Or.inr (by rw [pw_lToInt (by omega) (by omega)]; omega))) rfl
                        · intro hc84
                          change ¬ (pw_g h17 125 3 ≤ k159_2) at hc84
                          refine pw_ld E (pc' := 168) (st' := [.ref 141]) rfl (fun _ => rfl) ?_
                          refine pw_getR (b := 142) h17I E (c := 125) (k := 1) (pc' := 171) rfl rfl rfl rfl rfl rfl rfl ?_
                          refine pw_ld E (pc' := 172) (st' := [pw_i k159_2, .ref 142]) rfl (fun _ => rfl) ?_
                          refine pw_ald2 h17I E (c := 126) (pc' := 173) rfl rfl rfl (by decide) rfl (by decide) (by omega) (by omega) rfl (fun hf85a hf85b => ?_)
                          refine pw_call (m' := 241) (As := [pw_i (pw_g h17 126 (k159_2.toNat))]) (rest := []) (ls'' := [some (pw_i (pw_g h17 126 (k159_2.toNat)))]) (Nat.le_trans (by decide) hd) E rfl (fun _ => pw_iS rfl rfl rfl) (rfl : pm_ent 241 = some (1, 1, 12, 1, pmc_241)) rfl rfl (cm_241_r (pw_dp hd (by decide)) h17I (pw_g h17 126 (k159_2.toNat)) (by omega) (by omega)) ?_
                          rintro u87 v86 ⟨rfl, x88, rfl, hx88a, hx88b, hx88r⟩
                          refine ⟨_, rfl, ?_⟩
                          show pw X d h17 238 176 [some (.ref 141), some (pw_i k17_1), some (pw_i k159_2), some (pw_i (pw_g gh17 126 (k17_2.toNat))), some (pw_i k17_2), some (.long (Int64.ofInt k159_5)), none] [pw_i x88] _
                          change (x88 = 1 ∧ 48 ≤ (pw_g h17 126 (k159_2.toNat)) ∧ (pw_g h17 126 (k159_2.toNat)) ≤ 57) ∨ (x88 = 0 ∧ ¬ (48 ≤ (pw_g h17 126 (k159_2.toNat)) ∧ (pw_g h17 126 (k159_2.toNat)) ≤ 57)) at hx88r
                          rcases (by omega : x88 = 1 ∨ x88 = 0) with hb89 | hb89
                          · skip
                            refine pw_if E (pc' := 218) rfl (by decide) (by omega) (by omega) ?_ ?_
                            · intro hc90
                              change x88 = (0 : Int) at hc90
                              exfalso; omega
                            · intro hc91
                              change ¬ (x88 = (0 : Int)) at hc91
                              refine pw_ld E (pc' := 180) (st' := [pw_i k159_2]) rfl (fun _ => rfl) ?_
                              refine pw_ld E (pc' := 182) (st' := [pw_i k17_2, pw_i k159_2]) rfl (fun _ => rfl) ?_
                              refine pw_sub E (pc' := 183) rfl rfl ?_
                              refine pw_ld E (pc' := 184) (st' := [pw_i 4, pw_i (k159_2 - k17_2)]) rfl (fun _ => rfl) ?_
                              refine pw_if2 E (pc' := 208) rfl (by decide) (by omega) (by omega) (by decide) (by decide) ?_ ?_
                              · intro hc92
                                change (4 : Int) ≤ k159_2 - k17_2 at hc92
                                refine pw_ld E (pc' := 210) (st' := [.long (Int64.ofInt k159_5)]) rfl (fun _ => rfl) ?_
                                refine pw_lst E (pc' := 212) (ls' := [some (.ref 141), some (pw_i k17_1), some (pw_i k159_2), some (pw_i (pw_g gh17 126 (k17_2.toNat))), some (pw_i k17_2), some (.long (Int64.ofInt k159_5)), none]) rfl rfl rfl rfl ?_
                                refine pw_inc E (pc' := 215) (ls' := [some (.ref 141), some (pw_i k17_1), some (pw_i (k159_2 + 1)), some (pw_i (pw_g gh17 126 (k17_2.toNat))), some (pw_i k17_2), some (.long (Int64.ofInt k159_5)), none]) rfl rfl rfl rfl ?_
                                refine pw_goto E (pc' := 159) rfl (by decide) ?_
                                exact ih159 _ (by omega) (k159_2 + 1) (k159_5)  (by omega) (by omega) (by omega) (by omega) (by omega) (by omega) (by omega) (by omega) (by omega) rfl
                              · intro hc93
                                change ¬ ((4 : Int) ≤ k159_2 - k17_2) at hc93
                                refine pw_ld E (pc' := 190) (st' := [.long (Int64.ofInt 10)]) rfl (fun _ => rfl) ?_
                                refine pw_ld E (pc' := 192) (st' := [.long (Int64.ofInt k159_5), .long (Int64.ofInt 10)]) rfl (fun _ => rfl) ?_
                                refine pw_lmul E (pc' := 193) rfl rfl ?_
                                refine pw_ld E (pc' := 194) (st' := [.ref 141, .long (Int64.ofInt (10 * k159_5))]) rfl (fun _ => rfl) ?_
                                refine pw_getR (b := 142) h17I E (c := 125) (k := 1) (pc' := 197) rfl rfl rfl rfl rfl rfl rfl ?_
                                refine pw_ld E (pc' := 198) (st' := [pw_i k159_2, .ref 142, .long (Int64.ofInt (10 * k159_5))]) rfl (fun _ => rfl) ?_
                                refine pw_ald2 h17I E (c := 126) (pc' := 199) rfl rfl rfl (by decide) rfl (by decide) (by omega) (by omega) rfl (fun hf94a hf94b => ?_)
                                refine pw_i2l E (pc' := 200) rfl rfl (by omega) (by omega) ?_
                                refine pw_ladd E (pc' := 201) rfl rfl ?_
                                refine pw_ld E (pc' := 204) (st' := [.long (Int64.ofInt 48), .long (Int64.ofInt ((10 * k159_5) + (pw_g h17 126 (k159_2.toNat))))]) rfl (fun _ => rfl) ?_
                                refine pw_lsub E (pc' := 205) rfl rfl ?_
                                refine pw_goto E (pc' := 210) rfl (by decide) ?_
                                refine pw_lst E (pc' := 212) (ls' := [some (.ref 141), some (pw_i k17_1), some (pw_i k159_2), some (pw_i (pw_g gh17 126 (k17_2.toNat))), some (pw_i k17_2), some (.long (Int64.ofInt (((10 * k159_5) + (pw_g h17 126 (k159_2.toNat))) - 48))), none]) rfl rfl rfl rfl ?_
                                refine pw_inc E (pc' := 215) (ls' := [some (.ref 141), some (pw_i k17_1), some (pw_i (k159_2 + 1)), some (pw_i (pw_g gh17 126 (k17_2.toNat))), some (pw_i k17_2), some (.long (Int64.ofInt (((10 * k159_5) + (pw_g h17 126 (k159_2.toNat))) - 48))), none]) rfl rfl rfl rfl ?_
                                refine pw_goto E (pc' := 159) rfl (by decide) ?_
                                exact ih159 _ (by omega) (k159_2 + 1) (((10 * k159_5) + (pw_g h17 126 (k159_2.toNat))) - 48)  (by omega) (by omega) (by omega) (by omega) (by omega) (by omega) (by omega) (by omega) (by omega) rfl
                          · skip
                            refine pw_if E (pc' := 218) rfl (by decide) (by omega) (by omega) ?_ ?_
                            · intro hc96
                              change x88 = (0 : Int) at hc96
                              refine pw_ld E (pc' := 219) (st' := [.ref 141]) rfl (fun _ => rfl) ?_
                              refine pw_getR (b := 143) h17I E (c := 125) (k := 4) (pc' := 222) rfl rfl rfl rfl rfl rfl rfl ?_
                              refine pw_ld E (pc' := 223) (st' := [pw_i k17_1, .ref 143]) rfl (fun _ => rfl) ?_
                              refine pw_ld E (pc' := 224) (st' := [pw_i k159_2, pw_i k17_1, .ref 143]) rfl (fun _ => rfl) ?_
                              refine pw_ld E (pc' := 226) (st' := [pw_i k17_2, pw_i k159_2, pw_i k17_1, .ref 143]) rfl (fun _ => rfl) ?_
                              refine pw_sub E (pc' := 227) rfl rfl ?_
                              refine pw_ld E (pc' := 228) (st' := [pw_i 4, pw_i (k159_2 - k17_2), pw_i k17_1, .ref 143]) rfl (fun _ => rfl) ?_
                              refine pw_if2 E (pc' := 235) rfl (by decide) (by omega) (by omega) (by decide) (by decide) ?_ ?_
                              · intro hc97
                                change k159_2 - k17_2 ≤ (4 : Int) at hc97
                                refine pw_ld E (pc' := 236) (st' := [pw_i 2, pw_i k17_1, .ref 143]) rfl (fun _ => rfl) ?_
                                refine pw_ast0 h17I E (c := 127) (pc' := 237) rfl rfl rfl (by decide) rfl (by decide) (by omega) (by omega) rfl (by omega) (by omega) (by omega) (by omega) rfl ?_
                                intro h98I h98E
                                generalize h98w : pw_w h17 127 (k17_1.toNat) (pw_i 2) = h98 at h98I h98E ⊢
                                have h98F := h17F.tr (h98E.wk (W' := [125, 127, 128, 129, 1002]) (by first | rfl | simp))
                                refine pw_goto E (pc' := 265) rfl (by decide) ?_
                                refine pw_ld E (pc' := 266) (st' := [.ref 141]) rfl (fun _ => rfl) ?_
                                refine pw_getR (b := 145) h98I E (c := 125) (k := 6) (pc' := 269) rfl rfl rfl rfl rfl rfl rfl ?_
                                refine pw_ld E (pc' := 270) (st' := [pw_i k17_1, .ref 145]) rfl (fun _ => rfl) ?_
                                refine pw_ld E (pc' := 272) (st' := [.long (Int64.ofInt k159_5), pw_i k17_1, .ref 145]) rfl (fun _ => rfl) ?_
                                refine pw_last h98I E (c := 129) (pc' := 273) rfl rfl rfl (by decide) (by omega) (by omega) rfl ?_
                                intro h99I h99E
                                generalize h99w : pw_w h98 129 (k17_1.toNat) (.long (Int64.ofInt k159_5)) = h99 at h99I h99E ⊢
                                have h99F := h98F.tr (h99E.wk (W' := [125, 127, 128, 129, 1002]) (by first | rfl | simp))
                                refine pw_inc E (pc' := 276) (ls' := [some (.ref 141), some (pw_i (k17_1 + 1)), some (pw_i k159_2), some (pw_i (pw_g gh17 126 (k17_2.toNat))), some (pw_i k17_2), some (.long (Int64.ofInt k159_5)), none]) rfl rfl rfl rfl ?_
                                refine pw_goto E (pc' := 17) rfl (by decide) ?_
                                have he100 : pw_g h99 125 3 = pw_g h98 125 3 := by rw [← h99w]; exact pw_g_ne (by omega)
                                have he101 : pw_g h98 125 3 = pw_g h17 125 3 := by rw [← h98w]; exact pw_g_ne (by omega)
                                exact ih17 _ (by omega) (k17_1 + 1) (k159_2) (some (pw_i (pw_g gh17 126 (k17_2.toNat)))) (some (pw_i k17_2)) (some (.long (Int64.ofInt k159_5))) h99 h99I h99F (by omega) (by omega) (by omega) (by omega) (by omega) (by omega) (by first | exact hx17_2 | exact pw_NV.st hx17_2 (by omega) (by omega) (by assumption) (by assumption) (by assumption) (by assumption) (by assumption) (by omega) (by omega) (by first | exact Or.inl (by decide) | exact Or.inr (by rw [pw_lToInt (by omega) (by omega)]; omega))) rfl
                              · intro hc102
                                change ¬ (k159_2 - k17_2 ≤ (4 : Int)) at hc102
                                refine pw_ld E (pc' := 232) (st' := [pw_i 4, pw_i k17_1, .ref 143]) rfl (fun _ => rfl) ?_
                                refine pw_goto E (pc' := 236) rfl (by decide) ?_
                                refine pw_ast0 h17I E (c := 127) (pc' := 237) rfl rfl rfl (by decide) rfl (by decide) (by omega) (by omega) rfl (by omega) (by omega) (by omega) (by omega) rfl ?_
                                intro h103I h103E
                                generalize h103w : pw_w h17 127 (k17_1.toNat) (pw_i 4) = h103 at h103I h103E ⊢
                                have h103F := h17F.tr (h103E.wk (W' := [125, 127, 128, 129, 1002]) (by first | rfl | simp))
                                refine pw_goto E (pc' := 265) rfl (by decide) ?_
                                refine pw_ld E (pc' := 266) (st' := [.ref 141]) rfl (fun _ => rfl) ?_
                                refine pw_getR (b := 145) h103I E (c := 125) (k := 6) (pc' := 269) rfl rfl rfl rfl rfl rfl rfl ?_
                                refine pw_ld E (pc' := 270) (st' := [pw_i k17_1, .ref 145]) rfl (fun _ => rfl) ?_
                                refine pw_ld E (pc' := 272) (st' := [.long (Int64.ofInt k159_5), pw_i k17_1, .ref 145]) rfl (fun _ => rfl) ?_
                                refine pw_last h103I E (c := 129) (pc' := 273) rfl rfl rfl (by decide) (by omega) (by omega) rfl ?_
                                intro h104I h104E
                                generalize h104w : pw_w h103 129 (k17_1.toNat) (.long (Int64.ofInt k159_5)) = h104 at h104I h104E ⊢
                                have h104F := h103F.tr (h104E.wk (W' := [125, 127, 128, 129, 1002]) (by first | rfl | simp))
                                refine pw_inc E (pc' := 276) (ls' := [some (.ref 141), some (pw_i (k17_1 + 1)), some (pw_i k159_2), some (pw_i (pw_g gh17 126 (k17_2.toNat))), some (pw_i k17_2), some (.long (Int64.ofInt k159_5)), none]) rfl rfl rfl rfl ?_
                                refine pw_goto E (pc' := 17) rfl (by decide) ?_
                                have he105 : pw_g h104 125 3 = pw_g h103 125 3 := by rw [← h104w]; exact pw_g_ne (by omega)
                                have he106 : pw_g h103 125 3 = pw_g h17 125 3 := by rw [← h103w]; exact pw_g_ne (by omega)
                                exact ih17 _ (by omega) (k17_1 + 1) (k159_2) (some (pw_i (pw_g gh17 126 (k17_2.toNat)))) (some (pw_i k17_2)) (some (.long (Int64.ofInt k159_5))) h104 h104I h104F (by omega) (by omega) (by omega) (by omega) (by omega) (by omega) (by first | exact hx17_2 | exact pw_NV.st hx17_2 (by omega) (by omega) (by assumption) (by assumption) (by assumption) (by assumption) (by assumption) (by omega) (by omega) (by first | exact Or.inl (by decide) | exact Or.inr (by rw [pw_lToInt (by omega) (by omega)]; omega))) rfl
                            · intro hc107
                              change ¬ (x88 = (0 : Int)) at hc107
                              exfalso; omega
                    have he108 : pw_g h17 125 3 = pw_g gh17 125 3 := by rw [← h17w]; exact pw_g_ne (by omega)
                    exact L159 _ (k17_2) (0)  (by omega) (by omega) (by omega) (by omega) (by omega) (by omega) (by omega) (by omega) (by omega) rfl
                · skip
                  refine pw_if E (pc' := 240) rfl (by decide) (by omega) (by omega) ?_ ?_
                  · intro hc110
                    change x68 = (0 : Int) at hc110
                    refine pw_ld E (pc' := 241) (st' := [pw_i (pw_g gh17 126 (k17_2.toNat))]) rfl (fun _ => rfl) ?_
                    refine pw_i2l E (pc' := 242) rfl rfl (by omega) (by omega) ?_
                    refine pw_lst E (pc' := 244) (ls' := [some (.ref 141), some (pw_i k17_1), some (pw_i k17_2), some (pw_i (pw_g gh17 126 (k17_2.toNat))), some (pw_i k17_2), some (.long (Int64.ofInt (pw_g gh17 126 (k17_2.toNat)))), none]) rfl rfl rfl rfl ?_
                    refine pw_ld E (pc' := 245) (st' := [.ref 141]) rfl (fun _ => rfl) ?_
                    refine pw_getR (b := 143) h17I E (c := 125) (k := 4) (pc' := 248) rfl rfl rfl rfl rfl rfl rfl ?_
                    refine pw_ld E (pc' := 249) (st' := [pw_i k17_1, .ref 143]) rfl (fun _ => rfl) ?_
                    refine pw_ld E (pc' := 250) (st' := [pw_i (pw_g gh17 126 (k17_2.toNat)), pw_i k17_1, .ref 143]) rfl (fun _ => rfl) ?_
                    refine pw_call (m' := 242) (As := [pw_i (pw_g gh17 126 (k17_2.toNat))]) (rest := [pw_i k17_1, .ref 143]) (ls'' := [some (pw_i (pw_g gh17 126 (k17_2.toNat)))]) (Nat.le_trans (by decide) hd) E rfl (fun _ => pw_iS rfl rfl rfl) (rfl : pm_ent 242 = some (1, 1, 12, 1, pmc_242)) rfl rfl (cm_242 (pw_dp hd (by decide)) h17I (pw_g gh17 126 (k17_2.toNat)) (by omega) (by omega)) ?_
                    rintro u112 v111 ⟨rfl, x113, rfl, hx113a, hx113b⟩
                    refine ⟨_, rfl, ?_⟩
                    show pw X d h17 238 253 [some (.ref 141), some (pw_i k17_1), some (pw_i k17_2), some (pw_i (pw_g gh17 126 (k17_2.toNat))), some (pw_i k17_2), some (.long (Int64.ofInt (pw_g gh17 126 (k17_2.toNat)))), none] [pw_i x113, pw_i k17_1, .ref 143] _
                    refine pw_if E (pc' := 260) rfl (by decide) (by omega) (by omega) ?_ ?_
                    · intro hc114
                      change x113 = (0 : Int) at hc114
                      refine pw_ld E (pc' := 261) (st' := [pw_i 4, pw_i k17_1, .ref 143]) rfl (fun _ => rfl) ?_
                      refine pw_ast0 h17I E (c := 127) (pc' := 262) rfl rfl rfl (by decide) rfl (by decide) (by omega) (by omega) rfl (by omega) (by omega) (by omega) (by omega) rfl ?_
                      intro h115I h115E
                      generalize h115w : pw_w h17 127 (k17_1.toNat) (pw_i 4) = h115 at h115I h115E ⊢
                      have h115F := h17F.tr (h115E.wk (W' := [125, 127, 128, 129, 1002]) (by first | rfl | simp))
                      refine pw_inc E (pc' := 265) (ls' := [some (.ref 141), some (pw_i k17_1), some (pw_i (k17_2 + 1)), some (pw_i (pw_g gh17 126 (k17_2.toNat))), some (pw_i k17_2), some (.long (Int64.ofInt (pw_g gh17 126 (k17_2.toNat)))), none]) rfl rfl rfl rfl ?_
                      refine pw_ld E (pc' := 266) (st' := [.ref 141]) rfl (fun _ => rfl) ?_
                      refine pw_getR (b := 145) h115I E (c := 125) (k := 6) (pc' := 269) rfl rfl rfl rfl rfl rfl rfl ?_
                      refine pw_ld E (pc' := 270) (st' := [pw_i k17_1, .ref 145]) rfl (fun _ => rfl) ?_
                      refine pw_ld E (pc' := 272) (st' := [.long (Int64.ofInt (pw_g gh17 126 (k17_2.toNat))), pw_i k17_1, .ref 145]) rfl (fun _ => rfl) ?_
                      refine pw_last h115I E (c := 129) (pc' := 273) rfl rfl rfl (by decide) (by omega) (by omega) rfl ?_
                      intro h116I h116E
                      generalize h116w : pw_w h115 129 (k17_1.toNat) (.long (Int64.ofInt (pw_g gh17 126 (k17_2.toNat)))) = h116 at h116I h116E ⊢
                      have h116F := h115F.tr (h116E.wk (W' := [125, 127, 128, 129, 1002]) (by first | rfl | simp))
                      refine pw_inc E (pc' := 276) (ls' := [some (.ref 141), some (pw_i (k17_1 + 1)), some (pw_i (k17_2 + 1)), some (pw_i (pw_g gh17 126 (k17_2.toNat))), some (pw_i k17_2), some (.long (Int64.ofInt (pw_g gh17 126 (k17_2.toNat)))), none]) rfl rfl rfl rfl ?_
                      refine pw_goto E (pc' := 17) rfl (by decide) ?_
                      have he117 : pw_g h116 125 3 = pw_g h115 125 3 := by rw [← h116w]; exact pw_g_ne (by omega)
                      have he118 : pw_g h115 125 3 = pw_g h17 125 3 := by rw [← h115w]; exact pw_g_ne (by omega)
                      have he119 : pw_g h17 125 3 = pw_g gh17 125 3 := by rw [← h17w]; exact pw_g_ne (by omega)
                      exact ih17 _ (by omega) (k17_1 + 1) (k17_2 + 1) (some (pw_i (pw_g gh17 126 (k17_2.toNat)))) (some (pw_i k17_2)) (some (.long (Int64.ofInt (pw_g gh17 126 (k17_2.toNat))))) h116 h116I h116F (by omega) (by omega) (by omega) (by omega) (by omega) (by omega) (by first | exact hx17_2 | exact pw_NV.st hx17_2 (by omega) (by omega) (by assumption) (by assumption) (by assumption) (by assumption) (by assumption) (by omega) (by omega) (by first | exact Or.inl (by decide) | exact Or.inr (by rw [pw_lToInt (by omega) (by omega)]; omega))) rfl
                    · intro hc120
                      change ¬ (x113 = (0 : Int)) at hc120
                      refine pw_ld E (pc' := 257) (st' := [pw_i 3, pw_i k17_1, .ref 143]) rfl (fun _ => rfl) ?_
                      refine pw_goto E (pc' := 261) rfl (by decide) ?_
                      refine pw_ast0 h17I E (c := 127) (pc' := 262) rfl rfl rfl (by decide) rfl (by decide) (by omega) (by omega) rfl (by omega) (by omega) (by omega) (by omega) rfl ?_
                      intro h121I h121E
                      generalize h121w : pw_w h17 127 (k17_1.toNat) (pw_i 3) = h121 at h121I h121E ⊢
                      have h121F := h17F.tr (h121E.wk (W' := [125, 127, 128, 129, 1002]) (by first | rfl | simp))
                      refine pw_inc E (pc' := 265) (ls' := [some (.ref 141), some (pw_i k17_1), some (pw_i (k17_2 + 1)), some (pw_i (pw_g gh17 126 (k17_2.toNat))), some (pw_i k17_2), some (.long (Int64.ofInt (pw_g gh17 126 (k17_2.toNat)))), none]) rfl rfl rfl rfl ?_
                      refine pw_ld E (pc' := 266) (st' := [.ref 141]) rfl (fun _ => rfl) ?_
                      refine pw_getR (b := 145) h121I E (c := 125) (k := 6) (pc' := 269) rfl rfl rfl rfl rfl rfl rfl ?_
                      refine pw_ld E (pc' := 270) (st' := [pw_i k17_1, .ref 145]) rfl (fun _ => rfl) ?_
                      refine pw_ld E (pc' := 272) (st' := [.long (Int64.ofInt (pw_g gh17 126 (k17_2.toNat))), pw_i k17_1, .ref 145]) rfl (fun _ => rfl) ?_
                      refine pw_last h121I E (c := 129) (pc' := 273) rfl rfl rfl (by decide) (by omega) (by omega) rfl ?_
                      intro h122I h122E
                      generalize h122w : pw_w h121 129 (k17_1.toNat) (.long (Int64.ofInt (pw_g gh17 126 (k17_2.toNat)))) = h122 at h122I h122E ⊢
                      have h122F := h121F.tr (h122E.wk (W' := [125, 127, 128, 129, 1002]) (by first | rfl | simp))
                      refine pw_inc E (pc' := 276) (ls' := [some (.ref 141), some (pw_i (k17_1 + 1)), some (pw_i (k17_2 + 1)), some (pw_i (pw_g gh17 126 (k17_2.toNat))), some (pw_i k17_2), some (.long (Int64.ofInt (pw_g gh17 126 (k17_2.toNat)))), none]) rfl rfl rfl rfl ?_
                      refine pw_goto E (pc' := 17) rfl (by decide) ?_
                      have he123 : pw_g h122 125 3 = pw_g h121 125 3 := by rw [← h122w]; exact pw_g_ne (by omega)
                      have he124 : pw_g h121 125 3 = pw_g h17 125 3 := by rw [← h121w]; exact pw_g_ne (by omega)
                      have he125 : pw_g h17 125 3 = pw_g gh17 125 3 := by rw [← h17w]; exact pw_g_ne (by omega)
                      exact ih17 _ (by omega) (k17_1 + 1) (k17_2 + 1) (some (pw_i (pw_g gh17 126 (k17_2.toNat)))) (some (pw_i k17_2)) (some (.long (Int64.ofInt (pw_g gh17 126 (k17_2.toNat))))) h122 h122I h122F (by omega) (by omega) (by omega) (by omega) (by omega) (by omega) (by first | exact hx17_2 | exact pw_NV.st hx17_2 (by omega) (by omega) (by assumption) (by assumption) (by assumption) (by assumption) (by assumption) (by omega) (by omega) (by first | exact Or.inl (by decide) | exact Or.inr (by rw [pw_lToInt (by omega) (by omega)]; omega))) rfl
                  · intro hc126
                    change ¬ (x68 = (0 : Int)) at hc126
                    exfalso; omega
              · intro hc127
                change ¬ (x20 = (0 : Int)) at hc127
                exfalso; omega
          · intro hc128
            change ¬ (pw_g gh17 126 (k17_2.toNat) ≠ (32 : Int)) at hc128
            refine pw_inc E (pc' := 47) (ls' := [some (.ref 141), some (pw_i k17_1), some (pw_i (k17_2 + 1)), some (pw_i (pw_g gh17 126 (k17_2.toNat))), k17_4, k17_5, none]) rfl rfl rfl rfl ?_
            refine pw_goto E (pc' := 17) rfl (by decide) ?_
            exact ih17 _ (by omega) (k17_1) (k17_2 + 1) (some (pw_i (pw_g gh17 126 (k17_2.toNat)))) k17_4 k17_5 gh17 I17 E17 (by omega) (by omega) (by omega) (by omega) (by omega) (by omega) (by first | exact hx17_2 | exact pw_NV.st hx17_2 (by omega) (by omega) (by assumption) (by assumption) (by assumption) (by assumption) (by assumption) (by omega) (by omega) (by first | exact Or.inl (by decide) | exact Or.inr (by rw [pw_lToInt (by omega) (by omega)]; omega))) rfl
  have he129 : pw_g h3 125 3 = pw_g h2 125 3 := by rw [← h3w]; exact pw_g_ne (by omega)
  have he130 : pw_g h2 125 3 = pw_g h 125 2 := by rw [← h2w]; exact pw_g_eq (c := 125) (k := 3) I rfl rfl (by omega) (by omega)
  exact L17 _ (0) (0) (none) (none) (none) h3 h3I h3F (by omega) (by omega) (by omega) (by omega) (by omega) (by omega) (fun j hj => absurd hj (by omega)) rfl
set_option maxHeartbeats 4000000 in
theorem cm_258 {X : List (Nat × List Value)} {d : Nat} {h : pm_H} (hd : 1 ≤ d) (I : pw_I h) (to : Int) (hto1 : 0 ≤ to) (hto2 : to ≤ 8) (hp0 : pw_g h 125 32 ≤ 1000) (hp1 : to ≠ 4) : pw X d h 258 0 [some (.ref 141), some (pw_i to), none] [] (fun h' v => pw_I h' ∧ pw_E [146, 147] h h' ∧ (pw_KC h h' to (pw_g h 125 32)) ∧ (v = .inl none)) := by
  have E : pm_ent 258 = some (2, 3, 12, 4, pmc_258) := rfl
  have E0 : pw_E [146, 147] h h := pw_E.rf _ _
  have h320 := pw_gI (c := 125) (k := 32) I rfl rfl
  refine pw_ld E (pc' := 1) (st' := [pw_i 0]) rfl (fun _ => rfl) ?_
  refine pw_istn E (pc' := 2) (ls' := [some (.ref 141), some (pw_i to), some (pw_i 0)]) rfl rfl rfl rfl ?_
  have L2 : ∀ (n2 : Nat) (k2_2 : Int) (gh2 : pm_H), pw_I gh2 → pw_E [146, 147] h gh2 → 0 ≤ k2_2 → k2_2 ≤ 1000 → pw_g gh2 125 32 = pw_g h 125 32 → k2_2 ≤ pw_g gh2 125 32 → pw_KC h gh2 to k2_2 → (1000 - k2_2).toNat = n2 → pw X d gh2 258 2 [some (.ref 141), some (pw_i to), some (pw_i k2_2)] [] (fun h' v => pw_I h' ∧ pw_E [146, 147] h h' ∧ (pw_KC h h' to (pw_g h 125 32)) ∧ (v = .inl none)) := by
    intro n2
    induction n2 using Nat.strongRecOn with
    | ind n2 ih2 =>
      intro k2_2 gh2 I2 E2 k2_2a k2_2b hx2_0 hx2_1 hx2_2 hm2
      refine pw_ld E (pc' := 3) (st' := [pw_i k2_2]) rfl (fun _ => rfl) ?_
      refine pw_ld E (pc' := 4) (st' := [.ref 141, pw_i k2_2]) rfl (fun _ => rfl) ?_
      refine pw_getI2 I2 E (c := 125) (k := 32) (pc' := 7) rfl rfl rfl rfl rfl rfl (fun hf1a hf1b => ?_)
      refine pw_if2 E (pc' := 60) rfl (by decide) (by omega) (by omega) (by omega) (by omega) ?_ ?_
      · intro hc2
        change pw_g gh2 125 32 ≤ k2_2 at hc2
        refine pw_vret E rfl ?_
        exact ⟨I2, E2, ⟨(by rw [show pw_g h 125 32 = k2_2 by omega]; exact hx2_2), rfl⟩⟩
      · intro hc3
        change ¬ (pw_g gh2 125 32 ≤ k2_2) at hc3
        refine pw_ld E (pc' := 11) (st' := [.ref 141]) rfl (fun _ => rfl) ?_
        refine pw_getR (b := 162) I2 E (c := 125) (k := 33) (pc' := 14) rfl rfl rfl rfl rfl rfl rfl ?_
        refine pw_sip E (pc' := 17) rfl rfl (by decide) ?_
        refine pw_ld E (pc' := 18) (st' := [pw_i to, pw_i 1100, .ref 162]) rfl (fun _ => rfl) ?_
        refine pw_mul E (pc' := 19) rfl rfl ?_
        refine pw_ld E (pc' := 20) (st' := [pw_i k2_2, pw_i (1100 * to), .ref 162]) rfl (fun _ => rfl) ?_
        refine pw_add E (pc' := 21) rfl rfl ?_
        refine pw_ld E (pc' := 22) (st' := [.ref 141, pw_i ((1100 * to) + k2_2), .ref 162]) rfl (fun _ => rfl) ?_
        refine pw_getR (b := 162) I2 E (c := 125) (k := 33) (pc' := 25) rfl rfl rfl rfl rfl rfl rfl ?_
        refine pw_sip E (pc' := 28) rfl rfl (by decide) ?_
        refine pw_ld E (pc' := 29) (st' := [pw_i k2_2, pw_i 4400, .ref 162, pw_i ((1100 * to) + k2_2), .ref 162]) rfl (fun _ => rfl) ?_
        refine pw_add E (pc' := 30) rfl rfl ?_
        refine pw_ald2 I2 E (c := 146) (pc' := 31) rfl rfl rfl (by decide) rfl (by decide) (by omega) (by omega) rfl (fun hf4a hf4b => ?_)
        refine pw_ast0 I2 E (c := 146) (pc' := 32) rfl rfl rfl (by decide) rfl (by decide) (by omega) (by omega) rfl (by omega) (by omega) (by omega) (by omega) rfl ?_
        intro h5I h5E
        generalize h5w : pw_w gh2 146 (((1100 * to) + k2_2).toNat) (pw_i (pw_g gh2 146 ((4400 + k2_2).toNat))) = h5 at h5I h5E ⊢
        have h5F := E2.tr (h5E.wk (W' := [146, 147]) (by first | rfl | simp))
        refine pw_ld E (pc' := 33) (st' := [.ref 141]) rfl (fun _ => rfl) ?_
        refine pw_getR (b := 163) h5I E (c := 125) (k := 34) (pc' := 36) rfl rfl rfl rfl rfl rfl rfl ?_
        refine pw_sip E (pc' := 39) rfl rfl (by decide) ?_
        refine pw_ld E (pc' := 40) (st' := [pw_i to, pw_i 1100, .ref 163]) rfl (fun _ => rfl) ?_
        refine pw_mul E (pc' := 41) rfl rfl ?_
        refine pw_ld E (pc' := 42) (st' := [pw_i k2_2, pw_i (1100 * to), .ref 163]) rfl (fun _ => rfl) ?_
        refine pw_add E (pc' := 43) rfl rfl ?_
        refine pw_ld E (pc' := 44) (st' := [.ref 141, pw_i ((1100 * to) + k2_2), .ref 163]) rfl (fun _ => rfl) ?_
        refine pw_getR (b := 163) h5I E (c := 125) (k := 34) (pc' := 47) rfl rfl rfl rfl rfl rfl rfl ?_
        refine pw_sip E (pc' := 50) rfl rfl (by decide) ?_
        refine pw_ld E (pc' := 51) (st' := [pw_i k2_2, pw_i 4400, .ref 163, pw_i ((1100 * to) + k2_2), .ref 163]) rfl (fun _ => rfl) ?_
        refine pw_add E (pc' := 52) rfl rfl ?_
        refine pw_ald2 h5I E (c := 147) (pc' := 53) rfl rfl rfl (by decide) rfl (by decide) (by omega) (by omega) rfl (fun hf6a hf6b => ?_)
        refine pw_ast0 h5I E (c := 147) (pc' := 54) rfl rfl rfl (by decide) rfl (by decide) (by omega) (by omega) rfl (by omega) (by omega) (by omega) (by omega) rfl ?_
        intro h7I h7E
        generalize h7w : pw_w h5 147 (((1100 * to) + k2_2).toNat) (pw_i (pw_g h5 147 ((4400 + k2_2).toNat))) = h7 at h7I h7E ⊢
        have h7F := h5F.tr (h7E.wk (W' := [146, 147]) (by first | rfl | simp))
        refine pw_inc E (pc' := 57) (ls' := [some (.ref 141), some (pw_i to), some (pw_i (k2_2 + 1))]) rfl rfl rfl rfl ?_
        refine pw_goto E (pc' := 2) rfl (by decide) ?_
        have he8 : pw_g h7 125 32 = pw_g h5 125 32 := by rw [← h7w]; exact pw_g_ne (by omega)
        have he9 : pw_g h5 125 32 = pw_g gh2 125 32 := by rw [← h5w]; exact pw_g_ne (by omega)
        exact ih2 _ (by omega) (k2_2 + 1) h7 h7I h7F (by omega) (by omega) (by omega) (by omega) (pw_KC.st hx2_2 I2 (by omega) (by omega) (by omega) (by omega) (by omega) (by assumption) (by assumption) (by assumption)) rfl
  exact L2 _ (0) h I E0 (by omega) (by omega) (by omega) (by omega) pw_KC.rf rfl
end
