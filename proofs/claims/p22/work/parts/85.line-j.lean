section
/-! the model (printed by wip/tool/mall.py) -/
set_option maxHeartbeats 4000000 in
theorem cm_243 {X : List (Nat × List Value)} {d : Nat} {h : pm_H} (hd : 33 ≤ d) (I : pw_I h) {n : Nat} (A : pw_A n h) (hs : pw_g h 125 32 ≤ pw_g h 125 7) (hL : pw_g h 125 8 = 0 → pw_Ls h)  : pw X d h 243 0 [some (.ref 141), none, none] [] (fun h' v => pw_I h' ∧ pw_E [125, 145, 146, 147] h h' ∧ (pw_A n h' ∧ pw_Q 0 h h' ∧ (pw_g h' 125 8 = 0 → pw_Ls h' ∧ pw_g h 125 7 < pw_g h' 125 7) ∧ ∀ j : Nat, j < 16 → pw_g h' 145 j = pw_g h 145 j) ∧ (v = .inl none)) := by
  have E : pm_ent 243 = some (1, 3, 12, 4, pmc_243) := rfl
  have E0 : pw_E [125, 145, 146, 147] h h := pw_E.rf _ _
  have R0 : pw_R 0 0 0 h h := pw_R.rf A.2.2.2.2.2
  have hn1 : n ≤ 1000 := A.1
  have hA1 : pw_g h 125 7 ≤ n ∧ 0 ≤ pw_g h 125 8 ∧ 0 ≤ pw_g h 125 7 ∧ 0 ≤ pw_g h 125 32 := A.2.2
  refine pw_ld E (pc' := 1) (st' := [pw_i ((-1))]) rfl (fun _ => rfl) ?_
  refine pw_istn E (pc' := 2) (ls' := [some (.ref 141), some (pw_i ((-1))), none]) rfl rfl rfl rfl ?_
  refine pw_ld E (pc' := 3) (st' := [pw_i 0]) rfl (fun _ => rfl) ?_
  refine pw_istn E (pc' := 4) (ls' := [some (.ref 141), some (pw_i ((-1))), some (pw_i 0)]) rfl rfl rfl rfl ?_
  have L4 : ∀ (n4 : Nat) (k4_1 : Int) (k4_2 : Int), (-1) ≤ k4_1 → k4_1 ≤ 3 → 0 ≤ k4_2 → k4_2 ≤ 4 → k4_1 < 0 ∨ (pw_g h 125 8 = 0 ∧ pw_g h 127 (pw_g h 125 7).toNat = 1) → (4 - k4_2).toNat = n4 → pw X d h 243 4 [some (.ref 141), some (pw_i k4_1), some (pw_i k4_2)] [] (fun h' v => pw_I h' ∧ pw_E [125, 145, 146, 147] h h' ∧ (pw_A n h' ∧ pw_Q 0 h h' ∧ (pw_g h' 125 8 = 0 → pw_Ls h' ∧ pw_g h 125 7 < pw_g h' 125 7) ∧ ∀ j : Nat, j < 16 → pw_g h' 145 j = pw_g h 145 j) ∧ (v = .inl none)) := by
    intro n4
    induction n4 using Nat.strongRecOn with
    | ind n4 ih4 =>
      intro k4_1 k4_2 k4_1a k4_1b k4_2a k4_2b hx4_0 hm4
      refine pw_ld E (pc' := 5) (st' := [pw_i k4_2]) rfl (fun _ => rfl) ?_
      refine pw_ld E (pc' := 6) (st' := [pw_i 3, pw_i k4_2]) rfl (fun _ => rfl) ?_
      refine pw_if2 E (pc' := 29) rfl (by decide) (by omega) (by omega) (by decide) (by decide) ?_ ?_
      · intro hc2
        change (3 : Int) < k4_2 at hc2
        refine pw_ld E (pc' := 30) (st' := [pw_i k4_1]) rfl (fun _ => rfl) ?_
        refine pw_if E (pc' := 41) rfl (by decide) (by omega) (by omega) ?_ ?_
        · intro hc3
          change (0 : Int) ≤ k4_1 at hc3
          refine pw_ld E (pc' := 42) (st' := [.ref 141]) rfl (fun _ => rfl) ?_
          refine pw_getR (b := 161) I E (c := 125) (k := 31) (pc' := 45) rfl rfl rfl rfl rfl rfl rfl ?_
          refine pw_bip E (pc' := 47) rfl rfl (by decide) ?_
          refine pw_ld E (pc' := 48) (st' := [pw_i k4_1, pw_i 16, .ref 161]) rfl (fun _ => rfl) ?_
          refine pw_add E (pc' := 49) rfl rfl ?_
          refine pw_ald2 I E (c := 145) (pc' := 50) rfl rfl rfl (by decide) rfl (by decide) (by omega) (by omega) rfl (fun hf4a hf4b => ?_)
          refine pw_if E (pc' := 58) rfl (by decide) (by omega) (by omega) ?_ ?_
          · intro hc5
            change pw_g h 145 ((16 + k4_1).toNat) < (0 : Int) at hc5
            refine pw_ld E (pc' := 59) (st' := [.ref 141]) rfl (fun _ => rfl) ?_
            refine pw_getI2 I E (c := 125) (k := 8) (pc' := 62) rfl rfl rfl rfl rfl rfl (fun hf6a hf6b => ?_)
            refine pw_if E (pc' := 66) rfl (by decide) (by omega) (by omega) ?_ ?_
            · intro hc7
              change pw_g h 125 8 ≤ (0 : Int) at hc7
              refine pw_ld E (pc' := 67) (st' := [.ref 141]) rfl (fun _ => rfl) ?_
              refine pw_ld E (pc' := 68) (st' := [.ref 141, .ref 141]) rfl (fun _ => rfl) ?_
              refine pw_getI2 I E (c := 125) (k := 7) (pc' := 71) rfl rfl rfl rfl rfl rfl (fun hf8a hf8b => ?_)
              refine pw_ld E (pc' := 72) (st' := [pw_i 1, pw_i (pw_g h 125 7), .ref 141]) rfl (fun _ => rfl) ?_
              refine pw_add E (pc' := 73) rfl rfl ?_
              have hlt9 : (pw_g h 125 7) + 1 ≤ 1001 ∧ (pw_g h 125 7) + 1 ≤ n := by first | omega | (have := pw_A.lt A (by omega); omega) | (have := pw_A.lt A (by omega); omega)
              refine pw_putI I E (c := 125) (k := 7) (pc' := 76) rfl rfl rfl rfl (by omega) (by omega) (by omega) (by omega) rfl rfl ?_
              intro h10I h10E
              generalize h10w : pw_w h 125 7 (pw_i ((pw_g h 125 7) + 1)) = h10 at h10I h10E ⊢
              have h10F := E0.tr (h10E.wk (W' := [125, 145, 146, 147]) (by first | rfl | simp))
              have h107 : pw_g h10 125 7 = pw_g h 125 7 + 1 := by rw [← h10w]; exact pw_g_eq (c := 125) (k := 7) I rfl rfl (by omega) (by omega)
              have h108 : pw_g h10 125 8 = pw_g h 125 8 := by rw [← h10w]; exact pw_g_ne (by omega)
              have h109 : pw_g h10 125 32 = pw_g h 125 32 := by rw [← h10w]; exact pw_g_ne (by omega)
              have h10A : pw_A n h10 := ⟨hn1, by rw [← h10w, pw_g_ne (by omega)]; exact A.2.1, by omega, by omega, by omega, by omega⟩
              have h10R : pw_R 1 0 0 h h10 := pw_R.same (by decide) (by omega) (by omega) h107 h109 (fun j => by rw [← h10w]; exact pw_g_ne (by omega)) (fun j => by rw [← h10w]; exact pw_g_ne (by omega))
              have R11 : pw_R 1 0 0 h h10 := R0.tr (h10R : pw_R 1 0 0 h h10) (by decide) (by decide) (by decide)
              have hA12 : pw_g h10 125 7 ≤ n ∧ 0 ≤ pw_g h10 125 8 ∧ 0 ≤ pw_g h10 125 7 ∧ 0 ≤ pw_g h10 125 32 := h10A.2.2
              have hA13 : pw_g h 125 7 - pw_g h 125 32 + 1 ≤ pw_g h10 125 7 - pw_g h10 125 32 := R11.1.2.2.2.1
              have hA14 : pw_g h 125 7 ≤ pw_g h10 125 7 := h10R.1.2.1
              have hA14z : pw_g h10 125 8 = 0 → pw_g h 125 8 = 0 := h10R.1.1
              refine pw_ld E (pc' := 77) (st' := [pw_i k4_1]) rfl (fun _ => rfl) ?_
              refine pw_ld E (pc' := 78) (st' := [pw_i 1, pw_i k4_1]) rfl (fun _ => rfl) ?_
              refine pw_if2 E (pc' := 86) rfl (by decide) (by omega) (by omega) (by decide) (by decide) ?_ ?_
              · intro hc15
                change k4_1 ≤ (1 : Int) at hc15
                refine pw_ld E (pc' := 87) (st' := [.ref 141]) rfl (fun _ => rfl) ?_
                refine pw_getR (b := 161) h10I E (c := 125) (k := 31) (pc' := 90) rfl rfl rfl rfl rfl rfl rfl ?_
                refine pw_bip E (pc' := 92) rfl rfl (by decide) ?_
                refine pw_ld E (pc' := 93) (st' := [pw_i k4_1, pw_i 16, .ref 161]) rfl (fun _ => rfl) ?_
                refine pw_add E (pc' := 94) rfl rfl ?_
                refine pw_ld E (pc' := 95) (st' := [.ref 141, pw_i (16 + k4_1), .ref 161]) rfl (fun _ => rfl) ?_
                refine pw_getI2 h10I E (c := 125) (k := 32) (pc' := 98) rfl rfl rfl rfl rfl rfl (fun hf16a hf16b => ?_)
                refine pw_ast0 h10I E (c := 145) (pc' := 99) rfl rfl rfl (by decide) rfl (by decide) (by omega) (by omega) rfl (by omega) (by omega) (by omega) (by omega) rfl ?_
                intro h17I h17E
                generalize h17w : pw_w h10 145 ((16 + k4_1).toNat) (pw_i (pw_g h10 125 32)) = h17 at h17I h17E ⊢
                have h17F := h10F.tr (h17E.wk (W' := [125, 145, 146, 147]) (by first | rfl | simp))
                have h177 : pw_g h17 125 7 = pw_g h10 125 7 := by rw [← h17w]; exact pw_g_ne (by omega)
                have h178 : pw_g h17 125 8 = pw_g h10 125 8 := by rw [← h17w]; exact pw_g_ne (by omega)
                have h179 : pw_g h17 125 32 = pw_g h10 125 32 := by rw [← h17w]; exact pw_g_ne (by omega)
                have h17A : pw_A n h17 := ⟨hn1, by rw [← h17w, pw_g_ne (by omega)]; exact h10A.2.1, by omega, by omega, by omega, by omega⟩
                have h17R : pw_R 0 0 0 h10 h17 := pw_R.same (by decide) (by omega) (by omega) (by omega) h179 (fun j => by rw [← h17w]; exact pw_g_ne (by omega)) (fun j => by rw [← h17w]; exact pw_g_ne (by omega))
                have R18 : pw_R 1 0 0 h h17 := R11.tr (h17R : pw_R 0 0 0 h10 h17) (by decide) (by decide) (by decide)
                have hA19 : pw_g h17 125 7 ≤ n ∧ 0 ≤ pw_g h17 125 8 ∧ 0 ≤ pw_g h17 125 7 ∧ 0 ≤ pw_g h17 125 32 := h17A.2.2
                have hA20 : pw_g h 125 7 - pw_g h 125 32 + 1 ≤ pw_g h17 125 7 - pw_g h17 125 32 := R18.1.2.2.2.1
                have hA21 : pw_g h10 125 7 ≤ pw_g h17 125 7 := h17R.1.2.1
                have hA21z : pw_g h17 125 8 = 0 → pw_g h10 125 8 = 0 := h17R.1.1
                refine pw_ld E (pc' := 100) (st' := [.ref 141]) rfl (fun _ => rfl) ?_
                refine pw_ld E (pc' := 101) (st' := [pw_i 0, .ref 141]) rfl (fun _ => rfl) ?_
                obtain ⟨f22l, f22h, -⟩ := pw_obj (c := 125) h17I rfl
                refine pw_call (m' := 248) (As := [.ref 141, pw_i 0]) (rest := []) (ls'' := [some (.ref 141), some (pw_i 0), none]) (Nat.le_trans (by decide) hd) E rfl (fun _ => pw_iV rfl rfl rfl rfl (pw_cellI f22h rfl)) (rfl : pm_ent 248 = some (2, 3, 12, 4, pmc_248)) rfl rfl (pw_C248_all (by omega) h17I h17A (by omega)) ?_
                rintro h23 v24 ⟨h23I, h23E, ⟨h23A, h23R⟩, rfl⟩
                refine ⟨_, rfl, ?_⟩
                have h23F := h17F.tr (h23E.wk (W' := [125, 145, 146, 147]) (by first | rfl | simp))
                show pw X d h23 243 104 [some (.ref 141), some (pw_i k4_1), some (pw_i k4_2)] [] _
                have R25 : pw_R 1 0 1 h h23 := R18.tr (h23R : pw_R 0 0 1 h17 h23) (by decide) (by decide) (by decide)
                have hA26 : pw_g h23 125 7 ≤ n ∧ 0 ≤ pw_g h23 125 8 ∧ 0 ≤ pw_g h23 125 7 ∧ 0 ≤ pw_g h23 125 32 := h23A.2.2
                have hA27 : pw_g h 125 7 - pw_g h 125 32 + 1 ≤ pw_g h23 125 7 - pw_g h23 125 32 := R25.1.2.2.2.1
                have hA28 : pw_g h17 125 7 ≤ pw_g h23 125 7 := h23R.1.2.1
                have hA28z : pw_g h23 125 8 = 0 → pw_g h17 125 8 = 0 := h23R.1.1
                refine pw_ld E (pc' := 105) (st' := [.ref 141]) rfl (fun _ => rfl) ?_
                refine pw_ld E (pc' := 106) (st' := [pw_i 0, .ref 141]) rfl (fun _ => rfl) ?_
                refine pw_ld E (pc' := 107) (st' := [pw_i 0, pw_i 0, .ref 141]) rfl (fun _ => rfl) ?_
                obtain ⟨f29l, f29h, -⟩ := pw_obj (c := 125) h23I rfl
                refine pw_call (m' := 255) (As := [.ref 141, pw_i 0, pw_i 0]) (rest := []) (ls'' := [some (.ref 141), some (pw_i 0), some (pw_i 0)]) (Nat.le_trans (by decide) hd) E rfl (fun _ => pw_iV rfl rfl rfl rfl (pw_cellI f29h rfl)) (rfl : pm_ent 255 = some (3, 3, 12, 4, pmc_255)) rfl rfl (cm_255 (pw_dp hd (by decide)) h23I h23A (by omega) (0) (by omega) (by omega) (0) (by omega) (by omega)) ?_
                rintro h30 v31 ⟨h30I, h30E, ⟨h308, h307, h30c, h30o, h30g, h30u⟩, rfl⟩
                refine ⟨_, rfl, ?_⟩
                have h30F := h23F.tr (h30E.wk (W' := [125, 145, 146, 147]) (by first | rfl | simp))
                show pw X d h30 243 110 [some (.ref 141), some (pw_i k4_1), some (pw_i k4_2)] [] _
                have h30A : pw_A n h30 := ⟨hn1, by rw [pw_Eg (c := 127) h23I h30E rfl rfl]; exact h23A.2.1, by omega, by omega, by omega, by omega⟩
                have Q32 : pw_Q 0 h h30 := R25.1.tr (pw_Q.emit (by omega) (by omega) h308 h307 h30c h30u) (by decide)
                have hLn : pw_g h23 125 8 = 0 → pw_Ln h30 4400 (pw_g h17 125 32) (pw_g h30 125 32) := fun hz => pw_Ln.end (by omega) (by decide) h23R hz h30c h30o h30u
                have hA33 : pw_g h 125 7 - pw_g h 125 32 + 0 ≤ pw_g h30 125 7 - pw_g h30 125 32 := Q32.2.2.2.1
                refine pw_ld E (pc' := 111) (st' := [.ref 141]) rfl (fun _ => rfl) ?_
                refine pw_bip E (pc' := 113) rfl rfl (by decide) ?_
                obtain ⟨f34l, f34h, -⟩ := pw_obj (c := 125) h30I rfl
                refine pw_call (m' := 257) (As := [.ref 141, pw_i 59]) (rest := []) (ls'' := [some (.ref 141), some (pw_i 59)]) (Nat.le_trans (by decide) hd) E rfl (fun _ => pw_iV rfl rfl rfl rfl (pw_cellI f34h rfl)) (rfl : pm_ent 257 = some (2, 2, 12, 4, pmc_257)) rfl rfl (cm_257 (pw_dp hd (by decide)) h30I h30A (59) (by omega) (by omega)) ?_
                rintro h35 v36 ⟨h35I, h35E, ⟨h35A, h35R⟩, rfl⟩
                refine ⟨_, rfl, ?_⟩
                have h35F := h30F.tr (h35E.wk (W' := [125, 145, 146, 147]) (by first | rfl | simp))
                show pw X d h35 243 116 [some (.ref 141), some (pw_i k4_1), some (pw_i k4_2)] [] _
                have R37 : pw_Q 0 h h35 := Q32.tr (h35R.1 : pw_Q 0 h30 h35) (by decide)
                have hA38 : pw_g h35 125 7 ≤ n ∧ 0 ≤ pw_g h35 125 8 ∧ 0 ≤ pw_g h35 125 7 ∧ 0 ≤ pw_g h35 125 32 := h35A.2.2
                have hA39 : pw_g h 125 7 - pw_g h 125 32 + 0 ≤ pw_g h35 125 7 - pw_g h35 125 32 := R37.2.2.2.1
                have hA40 : pw_g h30 125 7 ≤ pw_g h35 125 7 := h35R.1.2.1
                have hA40z : pw_g h35 125 8 = 0 → pw_g h30 125 8 = 0 := h35R.1.1
                refine pw_vret E rfl ?_
                have hl41 : ∀ j : Nat, pw_g h35 145 j = pw_g h17 145 j := fun j => (((pw_Eg (c := 145) h30I h35E rfl rfl j : pw_g h35 145 j = pw_g h30 145 j)).trans (pw_Eg (c := 145) h23I h30E rfl rfl j : pw_g h30 145 j = pw_g h23 145 j)).trans (pw_Eg (c := 145) h17I h23E rfl rfl j : pw_g h23 145 j = pw_g h17 145 j)
                have hl42 : ∀ j : Nat, pw_g h10 145 j = pw_g h 145 j := fun j => (by rw [← h10w]; exact pw_g_ne (by omega) : pw_g h10 145 j = pw_g h 145 j)
                have hw0 : pw_g h17 145 ((16 + k4_1).toNat) = pw_g h10 125 32 := by rw [← h17w]; exact pw_g_eqA h10I rfl (by omega) (by omega) (by omega)
                have hw1 : ∀ j : Nat, j ≠ (16 + k4_1).toNat → pw_g h17 145 j = pw_g h10 145 j := fun j hj => by rw [← h17w]; exact pw_g_ne (fun q => hj q.2.symm)
                have hfin : pw_g h35 125 8 = 0 → pw_Ls h35 ∧ pw_g h 125 7 < pw_g h35 125 7 := by
                  intro q
                  refine ⟨fun k hk => ?_, by omega⟩
                  rcases Nat.lt_or_ge 0 (if 16 + k = (16 + k4_1).toNat then 1 else 0) with hq | hq
                  · have hq : 16 + k = (16 + k4_1).toNat := by split at hq <;> omega
                    rw [hq, hl41, hw0]
                    have hl : pw_Ln h35 4400 (pw_g h17 125 32) (pw_g h35 125 32) := pw_Ln.q h35R.1 (by omega) (hLn (by omega))
                    rw [show pw_g h10 125 32 = pw_g h17 125 32 by omega]
                    exact Or.inr hl
                  · have hq : 16 + k ≠ (16 + k4_1).toNat := by split at hq <;> omega
                    rw [hl41, hw1 _ hq, hl42]
                    rcases Int.lt_or_le (pw_g h 145 (16 + k)) 0 with hz | hz
                    · exact Or.inl hz
                    · exact Or.inr (pw_Ln.q R37 hz (((hL (by omega)) k hk).resolve_left (by omega)))
                exact ⟨h35I, h35F, ⟨h35A, R37.wk (by decide), hfin, fun j hj => (hl41 j).trans ((hw1 j (by omega)).trans (hl42 j))⟩, rfl⟩
              · intro hc43
                change ¬ (k4_1 ≤ (1 : Int)) at hc43
                refine pw_ld E (pc' := 82) (st' := [.ref 141]) rfl (fun _ => rfl) ?_
                refine pw_ld E (pc' := 83) (st' := [pw_i 4, .ref 141]) rfl (fun _ => rfl) ?_
                obtain ⟨f44l, f44h, -⟩ := pw_obj (c := 125) h10I rfl
                refine pw_call (m' := 246) (As := [.ref 141, pw_i 4]) (rest := []) (ls'' := [some (.ref 141), some (pw_i 4)]) (Nat.le_trans (by decide) hd) E rfl (fun _ => pw_iV rfl rfl rfl rfl (pw_cellI f44h rfl)) (rfl : pm_ent 246 = some (2, 2, 12, 4, pmc_246)) rfl rfl (cm_246 (pw_dp hd (by decide)) h10I h10A (4) (by omega) (by omega)) ?_
                rintro h45 v46 ⟨h45I, h45E, ⟨h45A, h45R⟩, rfl⟩
                refine ⟨_, rfl, ?_⟩
                have h45F := h10F.tr (h45E.wk (W' := [125, 145, 146, 147]) (by first | rfl | simp))
                show pw X d h45 243 86 [some (.ref 141), some (pw_i k4_1), some (pw_i k4_2)] [] _
                have R47 : pw_R 1 0 0 h h45 := R11.tr (h45R : pw_R 0 0 0 h10 h45) (by decide) (by decide) (by decide)
                have hA48 : pw_g h45 125 7 ≤ n ∧ 0 ≤ pw_g h45 125 8 ∧ 0 ≤ pw_g h45 125 7 ∧ 0 ≤ pw_g h45 125 32 := h45A.2.2
                have hA49 : pw_g h 125 7 - pw_g h 125 32 + 1 ≤ pw_g h45 125 7 - pw_g h45 125 32 := R47.1.2.2.2.1
                have hA50 : pw_g h10 125 7 ≤ pw_g h45 125 7 := h45R.1.2.1
                have hA50z : pw_g h45 125 8 = 0 → pw_g h10 125 8 = 0 := h45R.1.1
                refine pw_ld E (pc' := 87) (st' := [.ref 141]) rfl (fun _ => rfl) ?_
                refine pw_getR (b := 161) h45I E (c := 125) (k := 31) (pc' := 90) rfl rfl rfl rfl rfl rfl rfl ?_
                refine pw_bip E (pc' := 92) rfl rfl (by decide) ?_
                refine pw_ld E (pc' := 93) (st' := [pw_i k4_1, pw_i 16, .ref 161]) rfl (fun _ => rfl) ?_
                refine pw_add E (pc' := 94) rfl rfl ?_
                refine pw_ld E (pc' := 95) (st' := [.ref 141, pw_i (16 + k4_1), .ref 161]) rfl (fun _ => rfl) ?_
                refine pw_getI2 h45I E (c := 125) (k := 32) (pc' := 98) rfl rfl rfl rfl rfl rfl (fun hf51a hf51b => ?_)
                refine pw_ast0 h45I E (c := 145) (pc' := 99) rfl rfl rfl (by decide) rfl (by decide) (by omega) (by omega) rfl (by omega) (by omega) (by omega) (by omega) rfl ?_
                intro h52I h52E
                generalize h52w : pw_w h45 145 ((16 + k4_1).toNat) (pw_i (pw_g h45 125 32)) = h52 at h52I h52E ⊢
                have h52F := h45F.tr (h52E.wk (W' := [125, 145, 146, 147]) (by first | rfl | simp))
                have h527 : pw_g h52 125 7 = pw_g h45 125 7 := by rw [← h52w]; exact pw_g_ne (by omega)
                have h528 : pw_g h52 125 8 = pw_g h45 125 8 := by rw [← h52w]; exact pw_g_ne (by omega)
                have h529 : pw_g h52 125 32 = pw_g h45 125 32 := by rw [← h52w]; exact pw_g_ne (by omega)
                have h52A : pw_A n h52 := ⟨hn1, by rw [← h52w, pw_g_ne (by omega)]; exact h45A.2.1, by omega, by omega, by omega, by omega⟩
                have h52R : pw_R 0 0 0 h45 h52 := pw_R.same (by decide) (by omega) (by omega) (by omega) h529 (fun j => by rw [← h52w]; exact pw_g_ne (by omega)) (fun j => by rw [← h52w]; exact pw_g_ne (by omega))
                have R53 : pw_R 1 0 0 h h52 := R47.tr (h52R : pw_R 0 0 0 h45 h52) (by decide) (by decide) (by decide)
                have hA54 : pw_g h52 125 7 ≤ n ∧ 0 ≤ pw_g h52 125 8 ∧ 0 ≤ pw_g h52 125 7 ∧ 0 ≤ pw_g h52 125 32 := h52A.2.2
                have hA55 : pw_g h 125 7 - pw_g h 125 32 + 1 ≤ pw_g h52 125 7 - pw_g h52 125 32 := R53.1.2.2.2.1
                have hA56 : pw_g h45 125 7 ≤ pw_g h52 125 7 := h52R.1.2.1
                have hA56z : pw_g h52 125 8 = 0 → pw_g h45 125 8 = 0 := h52R.1.1
                refine pw_ld E (pc' := 100) (st' := [.ref 141]) rfl (fun _ => rfl) ?_
                refine pw_ld E (pc' := 101) (st' := [pw_i 0, .ref 141]) rfl (fun _ => rfl) ?_
                obtain ⟨f57l, f57h, -⟩ := pw_obj (c := 125) h52I rfl
                refine pw_call (m' := 248) (As := [.ref 141, pw_i 0]) (rest := []) (ls'' := [some (.ref 141), some (pw_i 0), none]) (Nat.le_trans (by decide) hd) E rfl (fun _ => pw_iV rfl rfl rfl rfl (pw_cellI f57h rfl)) (rfl : pm_ent 248 = some (2, 3, 12, 4, pmc_248)) rfl rfl (pw_C248_all (by omega) h52I h52A (by omega)) ?_
                rintro h58 v59 ⟨h58I, h58E, ⟨h58A, h58R⟩, rfl⟩
                refine ⟨_, rfl, ?_⟩
                have h58F := h52F.tr (h58E.wk (W' := [125, 145, 146, 147]) (by first | rfl | simp))
                show pw X d h58 243 104 [some (.ref 141), some (pw_i k4_1), some (pw_i k4_2)] [] _
                have R60 : pw_R 1 0 1 h h58 := R53.tr (h58R : pw_R 0 0 1 h52 h58) (by decide) (by decide) (by decide)
                have hA61 : pw_g h58 125 7 ≤ n ∧ 0 ≤ pw_g h58 125 8 ∧ 0 ≤ pw_g h58 125 7 ∧ 0 ≤ pw_g h58 125 32 := h58A.2.2
                have hA62 : pw_g h 125 7 - pw_g h 125 32 + 1 ≤ pw_g h58 125 7 - pw_g h58 125 32 := R60.1.2.2.2.1
                have hA63 : pw_g h52 125 7 ≤ pw_g h58 125 7 := h58R.1.2.1
                have hA63z : pw_g h58 125 8 = 0 → pw_g h52 125 8 = 0 := h58R.1.1
                refine pw_ld E (pc' := 105) (st' := [.ref 141]) rfl (fun _ => rfl) ?_
                refine pw_ld E (pc' := 106) (st' := [pw_i 0, .ref 141]) rfl (fun _ => rfl) ?_
                refine pw_ld E (pc' := 107) (st' := [pw_i 0, pw_i 0, .ref 141]) rfl (fun _ => rfl) ?_
                obtain ⟨f64l, f64h, -⟩ := pw_obj (c := 125) h58I rfl
                refine pw_call (m' := 255) (As := [.ref 141, pw_i 0, pw_i 0]) (rest := []) (ls'' := [some (.ref 141), some (pw_i 0), some (pw_i 0)]) (Nat.le_trans (by decide) hd) E rfl (fun _ => pw_iV rfl rfl rfl rfl (pw_cellI f64h rfl)) (rfl : pm_ent 255 = some (3, 3, 12, 4, pmc_255)) rfl rfl (cm_255 (pw_dp hd (by decide)) h58I h58A (by omega) (0) (by omega) (by omega) (0) (by omega) (by omega)) ?_
                rintro h65 v66 ⟨h65I, h65E, ⟨h658, h657, h65c, h65o, h65g, h65u⟩, rfl⟩
                refine ⟨_, rfl, ?_⟩
                have h65F := h58F.tr (h65E.wk (W' := [125, 145, 146, 147]) (by first | rfl | simp))
                show pw X d h65 243 110 [some (.ref 141), some (pw_i k4_1), some (pw_i k4_2)] [] _
                have h65A : pw_A n h65 := ⟨hn1, by rw [pw_Eg (c := 127) h58I h65E rfl rfl]; exact h58A.2.1, by omega, by omega, by omega, by omega⟩
                have Q67 : pw_Q 0 h h65 := R60.1.tr (pw_Q.emit (by omega) (by omega) h658 h657 h65c h65u) (by decide)
                have hLn : pw_g h58 125 8 = 0 → pw_Ln h65 4400 (pw_g h52 125 32) (pw_g h65 125 32) := fun hz => pw_Ln.end (by omega) (by decide) h58R hz h65c h65o h65u
                have hA68 : pw_g h 125 7 - pw_g h 125 32 + 0 ≤ pw_g h65 125 7 - pw_g h65 125 32 := Q67.2.2.2.1
                refine pw_ld E (pc' := 111) (st' := [.ref 141]) rfl (fun _ => rfl) ?_
                refine pw_bip E (pc' := 113) rfl rfl (by decide) ?_
                obtain ⟨f69l, f69h, -⟩ := pw_obj (c := 125) h65I rfl
                refine pw_call (m' := 257) (As := [.ref 141, pw_i 59]) (rest := []) (ls'' := [some (.ref 141), some (pw_i 59)]) (Nat.le_trans (by decide) hd) E rfl (fun _ => pw_iV rfl rfl rfl rfl (pw_cellI f69h rfl)) (rfl : pm_ent 257 = some (2, 2, 12, 4, pmc_257)) rfl rfl (cm_257 (pw_dp hd (by decide)) h65I h65A (59) (by omega) (by omega)) ?_
                rintro h70 v71 ⟨h70I, h70E, ⟨h70A, h70R⟩, rfl⟩
                refine ⟨_, rfl, ?_⟩
                have h70F := h65F.tr (h70E.wk (W' := [125, 145, 146, 147]) (by first | rfl | simp))
                show pw X d h70 243 116 [some (.ref 141), some (pw_i k4_1), some (pw_i k4_2)] [] _
                have R72 : pw_Q 0 h h70 := Q67.tr (h70R.1 : pw_Q 0 h65 h70) (by decide)
                have hA73 : pw_g h70 125 7 ≤ n ∧ 0 ≤ pw_g h70 125 8 ∧ 0 ≤ pw_g h70 125 7 ∧ 0 ≤ pw_g h70 125 32 := h70A.2.2
                have hA74 : pw_g h 125 7 - pw_g h 125 32 + 0 ≤ pw_g h70 125 7 - pw_g h70 125 32 := R72.2.2.2.1
                have hA75 : pw_g h65 125 7 ≤ pw_g h70 125 7 := h70R.1.2.1
                have hA75z : pw_g h70 125 8 = 0 → pw_g h65 125 8 = 0 := h70R.1.1
                refine pw_vret E rfl ?_
                have hl76 : ∀ j : Nat, pw_g h70 145 j = pw_g h52 145 j := fun j => (((pw_Eg (c := 145) h65I h70E rfl rfl j : pw_g h70 145 j = pw_g h65 145 j)).trans (pw_Eg (c := 145) h58I h65E rfl rfl j : pw_g h65 145 j = pw_g h58 145 j)).trans (pw_Eg (c := 145) h52I h58E rfl rfl j : pw_g h58 145 j = pw_g h52 145 j)
                have hl77 : ∀ j : Nat, pw_g h45 145 j = pw_g h 145 j := fun j => ((pw_Eg (c := 145) h10I h45E rfl rfl j : pw_g h45 145 j = pw_g h10 145 j)).trans (by rw [← h10w]; exact pw_g_ne (by omega) : pw_g h10 145 j = pw_g h 145 j)
                have hw0 : pw_g h52 145 ((16 + k4_1).toNat) = pw_g h45 125 32 := by rw [← h52w]; exact pw_g_eqA h45I rfl (by omega) (by omega) (by omega)
                have hw1 : ∀ j : Nat, j ≠ (16 + k4_1).toNat → pw_g h52 145 j = pw_g h45 145 j := fun j hj => by rw [← h52w]; exact pw_g_ne (fun q => hj q.2.symm)
                have hfin : pw_g h70 125 8 = 0 → pw_Ls h70 ∧ pw_g h 125 7 < pw_g h70 125 7 := by
                  intro q
                  refine ⟨fun k hk => ?_, by omega⟩
                  rcases Nat.lt_or_ge 0 (if 16 + k = (16 + k4_1).toNat then 1 else 0) with hq | hq
                  · have hq : 16 + k = (16 + k4_1).toNat := by split at hq <;> omega
                    rw [hq, hl76, hw0]
                    have hl : pw_Ln h70 4400 (pw_g h52 125 32) (pw_g h70 125 32) := pw_Ln.q h70R.1 (by omega) (hLn (by omega))
                    rw [show pw_g h45 125 32 = pw_g h52 125 32 by omega]
                    exact Or.inr hl
                  · have hq : 16 + k ≠ (16 + k4_1).toNat := by split at hq <;> omega
                    rw [hl76, hw1 _ hq, hl77]
                    rcases Int.lt_or_le (pw_g h 145 (16 + k)) 0 with hz | hz
                    · exact Or.inl hz
                    · exact Or.inr (pw_Ln.q R72 hz (((hL (by omega)) k hk).resolve_left (by omega)))
                exact ⟨h70I, h70F, ⟨h70A, R72.wk (by decide), hfin, fun j hj => (hl76 j).trans ((hw1 j (by omega)).trans (hl77 j))⟩, rfl⟩
            · intro hc78
              change ¬ (pw_g h 125 8 ≤ (0 : Int)) at hc78
              refine pw_vret E rfl ?_
              have hl79 : ∀ j : Nat, pw_g h 145 j = pw_g h 145 j := fun j => rfl
              exact ⟨I, E0, ⟨A, (R0.wk (by decide)).1, fun q => absurd q (by omega), fun j _ => hl79 j⟩, rfl⟩
          · intro hc80
            change ¬ (pw_g h 145 ((16 + k4_1).toNat) < (0 : Int)) at hc80
            refine pw_ld E (pc' := 54) (st' := [.ref 141]) rfl (fun _ => rfl) ?_
            refine pw_ld E (pc' := 55) (st' := [pw_i 3, .ref 141]) rfl (fun _ => rfl) ?_
            obtain ⟨f81l, f81h, -⟩ := pw_obj (c := 125) I rfl
            refine pw_call (m' := 245) (As := [.ref 141, pw_i 3]) (rest := []) (ls'' := [some (.ref 141), some (pw_i 3)]) (Nat.le_trans (by decide) hd) E rfl (fun _ => pw_iV rfl rfl rfl rfl (pw_cellI f81h rfl)) (rfl : pm_ent 245 = some (2, 2, 12, 4, pmc_245)) rfl rfl (cm_245 (pw_dp hd (by decide)) I A (3) (by omega) (by omega)) ?_
            rintro h82 v83 ⟨h82I, h82E, ⟨h82A, h82R, h82z⟩, rfl⟩
            refine ⟨_, rfl, ?_⟩
            have h82F := E0.tr (h82E.wk (W' := [125, 145, 146, 147]) (by first | rfl | simp))
            show pw X d h82 243 58 [some (.ref 141), some (pw_i k4_1), some (pw_i k4_2)] [] _
            change 1 ≤ pw_g h82 125 8 at h82z
            have R84 : pw_R 0 0 0 h h82 := R0.tr (h82R : pw_R 0 0 0 h h82) (by decide) (by decide) (by decide)
            have hA85 : pw_g h82 125 7 ≤ n ∧ 0 ≤ pw_g h82 125 8 ∧ 0 ≤ pw_g h82 125 7 ∧ 0 ≤ pw_g h82 125 32 := h82A.2.2
            have hA86 : pw_g h 125 7 - pw_g h 125 32 + 0 ≤ pw_g h82 125 7 - pw_g h82 125 32 := R84.1.2.2.2.1
            have hA87 : pw_g h 125 7 ≤ pw_g h82 125 7 := h82R.1.2.1
            have hA87z : pw_g h82 125 8 = 0 → pw_g h 125 8 = 0 := h82R.1.1
            refine pw_ld E (pc' := 59) (st' := [.ref 141]) rfl (fun _ => rfl) ?_
            refine pw_getI2 h82I E (c := 125) (k := 8) (pc' := 62) rfl rfl rfl rfl rfl rfl (fun hf88a hf88b => ?_)
            refine pw_if E (pc' := 66) rfl (by decide) (by omega) (by omega) ?_ ?_
            · intro hc89
              change pw_g h82 125 8 ≤ (0 : Int) at hc89
              exfalso; omega
            · intro hc90
              change ¬ (pw_g h82 125 8 ≤ (0 : Int)) at hc90
              refine pw_vret E rfl ?_
              have hl91 : ∀ j : Nat, pw_g h82 145 j = pw_g h 145 j := fun j => (pw_Eg (c := 145) I h82E rfl rfl j : pw_g h82 145 j = pw_g h 145 j)
              exact ⟨h82I, h82F, ⟨h82A, (R84.wk (by decide)).1, fun q => absurd q (by omega), fun j _ => hl91 j⟩, rfl⟩
        · intro hc92
          change ¬ ((0 : Int) ≤ k4_1) at hc92
          refine pw_ld E (pc' := 34) (st' := [.ref 141]) rfl (fun _ => rfl) ?_
          refine pw_ld E (pc' := 35) (st' := [pw_i 1, .ref 141]) rfl (fun _ => rfl) ?_
          obtain ⟨f93l, f93h, -⟩ := pw_obj (c := 125) I rfl
          refine pw_call (m' := 245) (As := [.ref 141, pw_i 1]) (rest := []) (ls'' := [some (.ref 141), some (pw_i 1)]) (Nat.le_trans (by decide) hd) E rfl (fun _ => pw_iV rfl rfl rfl rfl (pw_cellI f93h rfl)) (rfl : pm_ent 245 = some (2, 2, 12, 4, pmc_245)) rfl rfl (cm_245 (pw_dp hd (by decide)) I A (1) (by omega) (by omega)) ?_
          rintro h94 v95 ⟨h94I, h94E, ⟨h94A, h94R, h94z⟩, rfl⟩
          refine ⟨_, rfl, ?_⟩
          have h94F := E0.tr (h94E.wk (W' := [125, 145, 146, 147]) (by first | rfl | simp))
          show pw X d h94 243 38 [some (.ref 141), some (pw_i k4_1), some (pw_i k4_2)] [] _
          change 1 ≤ pw_g h94 125 8 at h94z
          have R96 : pw_R 0 0 0 h h94 := R0.tr (h94R : pw_R 0 0 0 h h94) (by decide) (by decide) (by decide)
          have hA97 : pw_g h94 125 7 ≤ n ∧ 0 ≤ pw_g h94 125 8 ∧ 0 ≤ pw_g h94 125 7 ∧ 0 ≤ pw_g h94 125 32 := h94A.2.2
          have hA98 : pw_g h 125 7 - pw_g h 125 32 + 0 ≤ pw_g h94 125 7 - pw_g h94 125 32 := R96.1.2.2.2.1
          have hA99 : pw_g h 125 7 ≤ pw_g h94 125 7 := h94R.1.2.1
          have hA99z : pw_g h94 125 8 = 0 → pw_g h 125 8 = 0 := h94R.1.1
          refine pw_goto E (pc' := 58) rfl (by decide) ?_
          refine pw_ld E (pc' := 59) (st' := [.ref 141]) rfl (fun _ => rfl) ?_
          refine pw_getI2 h94I E (c := 125) (k := 8) (pc' := 62) rfl rfl rfl rfl rfl rfl (fun hf100a hf100b => ?_)
          refine pw_if E (pc' := 66) rfl (by decide) (by omega) (by omega) ?_ ?_
          · intro hc101
            change pw_g h94 125 8 ≤ (0 : Int) at hc101
            exfalso; omega
          · intro hc102
            change ¬ (pw_g h94 125 8 ≤ (0 : Int)) at hc102
            refine pw_vret E rfl ?_
            have hl103 : ∀ j : Nat, pw_g h94 145 j = pw_g h 145 j := fun j => (pw_Eg (c := 145) I h94E rfl rfl j : pw_g h94 145 j = pw_g h 145 j)
            exact ⟨h94I, h94F, ⟨h94A, (R96.wk (by decide)).1, fun q => absurd q (by omega), fun j _ => hl103 j⟩, rfl⟩
      · intro hc104
        change ¬ ((3 : Int) < k4_2) at hc104
        refine pw_ld E (pc' := 10) (st' := [.ref 141]) rfl (fun _ => rfl) ?_
        refine pw_ld E (pc' := 11) (st' := [pw_i k4_2, .ref 141]) rfl (fun _ => rfl) ?_
        obtain ⟨f105l, f105h, -⟩ := pw_obj (c := 125) I rfl
        refine pw_call (m' := 244) (As := [.ref 141, pw_i k4_2]) (rest := []) (ls'' := [some (.ref 141), some (pw_i k4_2)]) (Nat.le_trans (by decide) hd) E rfl (fun _ => pw_iV rfl rfl rfl rfl (pw_cellI f105h rfl)) (rfl : pm_ent 244 = some (2, 2, 12, 1, pmc_244)) rfl rfl (cm_244 (pw_dp hd (by decide)) I (k4_2) (by omega) (by omega)) ?_
        rintro u107 v106 ⟨rfl, x108, rfl, hx108a, hx108b, hx108r⟩
        refine ⟨_, rfl, ?_⟩
        show pw X d h 243 14 [some (.ref 141), some (pw_i k4_1), some (pw_i k4_2)] [pw_i x108] _
        change x108 = pw_wd h k4_2 ∧ (x108 = 1 → pw_g h 125 8 = 0 ∧ pw_g h 127 (pw_g h 125 7).toNat = 1) at hx108r
        rcases (by omega : x108 = 1 ∨ x108 = 0) with hb109 | hb109
        · skip
          refine pw_if E (pc' := 21) rfl (by decide) (by omega) (by omega) ?_ ?_
          · intro hc110
            change x108 = (0 : Int) at hc110
            exfalso; omega
          · intro hc111
            change ¬ (x108 = (0 : Int)) at hc111
            refine pw_ld E (pc' := 18) (st' := [pw_i k4_2]) rfl (fun _ => rfl) ?_
            refine pw_goto E (pc' := 22) rfl (by decide) ?_
            refine pw_istn E (pc' := 23) (ls' := [some (.ref 141), some (pw_i k4_2), some (pw_i k4_2)]) rfl rfl rfl rfl ?_
            refine pw_inc E (pc' := 26) (ls' := [some (.ref 141), some (pw_i k4_2), some (pw_i (k4_2 + 1))]) rfl rfl rfl rfl ?_
            refine pw_goto E (pc' := 4) rfl (by decide) ?_
            exact ih4 _ (by omega) (k4_2) (k4_2 + 1)  (by omega) (by omega) (by omega) (by omega) (by omega) rfl
        · skip
          refine pw_if E (pc' := 21) rfl (by decide) (by omega) (by omega) ?_ ?_
          · intro hc113
            change x108 = (0 : Int) at hc113
            refine pw_ld E (pc' := 22) (st' := [pw_i k4_1]) rfl (fun _ => rfl) ?_
            refine pw_istn E (pc' := 23) (ls' := [some (.ref 141), some (pw_i k4_1), some (pw_i k4_2)]) rfl rfl rfl rfl ?_
            refine pw_inc E (pc' := 26) (ls' := [some (.ref 141), some (pw_i k4_1), some (pw_i (k4_2 + 1))]) rfl rfl rfl rfl ?_
            refine pw_goto E (pc' := 4) rfl (by decide) ?_
            exact ih4 _ (by omega) (k4_1) (k4_2 + 1)  (by omega) (by omega) (by omega) (by omega) (by omega) rfl
          · intro hc114
            change ¬ (x108 = (0 : Int)) at hc114
            exfalso; omega
  exact L4 _ ((-1)) (0)  (by omega) (by omega) (by omega) (by omega) (by omega) rfl
end
section
/-! the model (printed by wip/tool/mall.py) -/
set_option maxHeartbeats 4000000 in
theorem cm_258 {X : List (Nat × List Value)} {d : Nat} {h : pm_H} (hd : 1 ≤ d) (I : pw_I h) (to : Int) (hto1 : 0 ≤ to) (hto2 : to ≤ 8) (hp0 : pw_g h 125 32 ≤ 1000) (hp1 : to ≠ 4) : pw X d h 258 0 [some (.ref 141), some (pw_i to), none] [] (fun h' v => pw_I h' ∧ pw_E [146, 147] h h' ∧ (pw_KC h h' to (pw_g h 125 32)) ∧ (v = .inl none)) := by
  have E : pm_ent 258 = some (2, 3, 12, 4, pmc_258) := rfl
  have E0 : pw_E [146, 147] h h := pw_E.rf _ _
  have h320 := pw_gI (c := 125) (k := 32) I rfl rfl
  refine pw_ld E (pc' := 1) (st' := [pw_i 0]) rfl (fun _ => rfl) ?_
  refine pw_istn E (pc' := 2) (ls' := [some (.ref 141), some (pw_i to), some (pw_i 0)]) rfl rfl rfl rfl ?_
  have L2 : ∀ (n2 : Nat) (k2_2 : Int) (gh2 : pm_H), pw_I gh2 → pw_E [146, 147] h gh2 → 0 ≤ k2_2 → k2_2 ≤ 1000 → pw_g gh2 125 32 = pw_g h 125 32 → k2_2 ≤ pw_g gh2 125 32 → pw_KC h gh2 to k2_2 → (1000 - k2_2).toNat = n2 → pw X d gh2 258 2 [some (.ref 141), some (pw_i to), some (pw_i k2_2)] [] (fun h' v => pw_I h' ∧ pw_E [146, 147] h h' ∧ (pw_KC h h' to (pw_g h 125 32)) ∧ (v = .inl none)) := by
    intro n2
    induction n2 using Nat.strongRecOn with
    | ind n2 ih2 =>
      intro k2_2 gh2 I2 E2 k2_2a k2_2b hx2_0 hx2_1 hx2_2 hm2
      refine pw_ld E (pc' := 3) (st' := [pw_i k2_2]) rfl (fun _ => rfl) ?_
      refine pw_ld E (pc' := 4) (st' := [.ref 141, pw_i k2_2]) rfl (fun _ => rfl) ?_
      refine pw_getI2 I2 E (c := 125) (k := 32) (pc' := 7) rfl rfl rfl rfl rfl rfl (fun hf1a hf1b => ?_)
      refine pw_if2 E (pc' := 60) rfl (by decide) (by omega) (by omega) (by omega) (by omega) ?_ ?_
      · intro hc2
        change pw_g gh2 125 32 ≤ k2_2 at hc2
        refine pw_vret E rfl ?_
        exact ⟨I2, E2, ⟨(by rw [show pw_g h 125 32 = k2_2 by omega]; exact hx2_2), rfl⟩⟩
      · intro hc3
        change ¬ (pw_g gh2 125 32 ≤ k2_2) at hc3
        refine pw_ld E (pc' := 11) (st' := [.ref 141]) rfl (fun _ => rfl) ?_
        refine pw_getR (b := 162) I2 E (c := 125) (k := 33) (pc' := 14) rfl rfl rfl rfl rfl rfl rfl ?_
        refine pw_sip E (pc' := 17) rfl rfl (by decide) ?_
        refine pw_ld E (pc' := 18) (st' := [pw_i to, pw_i 1100, .ref 162]) rfl (fun _ => rfl) ?_
        refine pw_mul E (pc' := 19) rfl rfl ?_
        refine pw_ld E (pc' := 20) (st' := [pw_i k2_2, pw_i (1100 * to), .ref 162]) rfl (fun _ => rfl) ?_
        refine pw_add E (pc' := 21) rfl rfl ?_
        refine pw_ld E (pc' := 22) (st' := [.ref 141, pw_i ((1100 * to) + k2_2), .ref 162]) rfl (fun _ => rfl) ?_
        refine pw_getR (b := 162) I2 E (c := 125) (k := 33) (pc' := 25) rfl rfl rfl rfl rfl rfl rfl ?_
        refine pw_sip E (pc' := 28) rfl rfl (by decide) ?_
        refine pw_ld E (pc' := 29) (st' := [pw_i k2_2, pw_i 4400, .ref 162, pw_i ((1100 * to) + k2_2), .ref 162]) rfl (fun _ => rfl) ?_
        refine pw_add E (pc' := 30) rfl rfl ?_
        refine pw_ald2 I2 E (c := 146) (pc' := 31) rfl rfl rfl (by decide) rfl (by decide) (by omega) (by omega) rfl (fun hf4a hf4b => ?_)
        refine pw_ast0 I2 E (c := 146) (pc' := 32) rfl rfl rfl (by decide) rfl (by decide) (by omega) (by omega) rfl (by omega) (by omega) (by omega) (by omega) rfl ?_
        intro h5I h5E
        generalize h5w : pw_w gh2 146 (((1100 * to) + k2_2).toNat) (pw_i (pw_g gh2 146 ((4400 + k2_2).toNat))) = h5 at h5I h5E ⊢
        have h5F := E2.tr (h5E.wk (W' := [146, 147]) (by first | rfl | simp))
        refine pw_ld E (pc' := 33) (st' := [.ref 141]) rfl (fun _ => rfl) ?_
        refine pw_getR (b := 163) h5I E (c := 125) (k := 34) (pc' := 36) rfl rfl rfl rfl rfl rfl rfl ?_
        refine pw_sip E (pc' := 39) rfl rfl (by decide) ?_
        refine pw_ld E (pc' := 40) (st' := [pw_i to, pw_i 1100, .ref 163]) rfl (fun _ => rfl) ?_
        refine pw_mul E (pc' := 41) rfl rfl ?_
        refine pw_ld E (pc' := 42) (st' := [pw_i k2_2, pw_i (1100 * to), .ref 163]) rfl (fun _ => rfl) ?_
        refine pw_add E (pc' := 43) rfl rfl ?_
        refine pw_ld E (pc' := 44) (st' := [.ref 141, pw_i ((1100 * to) + k2_2), .ref 163]) rfl (fun _ => rfl) ?_
        refine pw_getR (b := 163) h5I E (c := 125) (k := 34) (pc' := 47) rfl rfl rfl rfl rfl rfl rfl ?_
        refine pw_sip E (pc' := 50) rfl rfl (by decide) ?_
        refine pw_ld E (pc' := 51) (st' := [pw_i k2_2, pw_i 4400, .ref 163, pw_i ((1100 * to) + k2_2), .ref 163]) rfl (fun _ => rfl) ?_
        refine pw_add E (pc' := 52) rfl rfl ?_
        refine pw_ald2 h5I E (c := 147) (pc' := 53) rfl rfl rfl (by decide) rfl (by decide) (by omega) (by omega) rfl (fun hf6a hf6b => ?_)
        refine pw_ast0 h5I E (c := 147) (pc' := 54) rfl rfl rfl (by decide) rfl (by decide) (by omega) (by omega) rfl (by omega) (by omega) (by omega) (by omega) rfl ?_
        intro h7I h7E
        generalize h7w : pw_w h5 147 (((1100 * to) + k2_2).toNat) (pw_i (pw_g h5 147 ((4400 + k2_2).toNat))) = h7 at h7I h7E ⊢
        have h7F := h5F.tr (h7E.wk (W' := [146, 147]) (by first | rfl | simp))
        refine pw_inc E (pc' := 57) (ls' := [some (.ref 141), some (pw_i to), some (pw_i (k2_2 + 1))]) rfl rfl rfl rfl ?_
        refine pw_goto E (pc' := 2) rfl (by decide) ?_
        have he8 : pw_g h7 125 32 = pw_g h5 125 32 := by rw [← h7w]; exact pw_g_ne (by omega)
        have he9 : pw_g h5 125 32 = pw_g gh2 125 32 := by rw [← h5w]; exact pw_g_ne (by omega)
        exact ih2 _ (by omega) (k2_2 + 1) h7 h7I h7F (by omega) (by omega) (by omega) (by omega) (pw_KC.st hx2_2 I2 (by omega) (by omega) (by omega) (by omega) (by omega) (by assumption) (by assumption) (by assumption)) rfl
  exact L2 _ (0) h I E0 (by omega) (by omega) (by omega) (by omega) pw_KC.rf rfl
end
