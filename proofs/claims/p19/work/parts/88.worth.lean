/-! the model (printed by wip/tool/mall.py) -/
set_option maxHeartbeats 4000000 in
theorem cm_265 {X : List (Nat × List Value)} {d : Nat} {h : pm_H} (hd : 1 ≤ d) (I : pw_I h) (c : Int) (hc1 : (-2147483648) ≤ c) (hc2 : c ≤ 2147483647) (x : Int) (hx1 : (-2147483648) ≤ x) (hx2 : x ≤ 2147483647) (y : Int) (hy1 : (-2147483648) ≤ y) (hy2 : y ≤ 2147483647) : pw X d h 265 0 [some (pw_i c), some (pw_i x), some (pw_i y)] [] (fun h' v => h = h' ∧ ∃ a : Int, v = .inl (some (pw_i a)) ∧ (-2147483648) ≤ a ∧ a ≤ 2147483647) := by
  have E : pm_ent 265 = some (3, 3, 12, 0, pmc_265) := rfl
  refine pw_ld E (pc' := 1) (st' := [pw_i c]) rfl (fun _ => rfl) ?_
  rcases (by omega : c = 4 ∨ c = 5 ∨ c = 6 ∨ c = 7 ∨ c = 8 ∨ c = 9 ∨ (c < 4 ∨ 9 < c)) with hs1 | hs1 | hs1 | hs1 | hs1 | hs1 | hs1
  · refine pw_tswJ (o := 39) E (pc' := 40) rfl (by omega) (by omega) (by omega) (by rw [hs1]; rfl) (by decide) ?_
    refine pw_ld E (pc' := 41) (st' := [pw_i x]) rfl (fun _ => rfl) ?_
    refine pw_ld E (pc' := 42) (st' := [pw_i y, pw_i x]) rfl (fun _ => rfl) ?_
    refine pw_add E (pc' := 43) rfl rfl ?_
    refine pw_nm (fun x2 hx2a hx2b => ?_)
    refine pw_iret E rfl ?_
    exact ⟨rfl, ⟨_, rfl, by omega, by omega⟩⟩
  · refine pw_tswJ (o := 43) E (pc' := 44) rfl (by omega) (by omega) (by omega) (by rw [hs1]; rfl) (by decide) ?_
    refine pw_ld E (pc' := 45) (st' := [pw_i x]) rfl (fun _ => rfl) ?_
    refine pw_ld E (pc' := 46) (st' := [pw_i y, pw_i x]) rfl (fun _ => rfl) ?_
    refine pw_sub E (pc' := 47) rfl rfl ?_
    refine pw_nm (fun x3 hx3a hx3b => ?_)
    refine pw_iret E rfl ?_
    exact ⟨rfl, ⟨_, rfl, by omega, by omega⟩⟩
  · refine pw_tswJ (o := 47) E (pc' := 48) rfl (by omega) (by omega) (by omega) (by rw [hs1]; rfl) (by decide) ?_
    refine pw_ld E (pc' := 49) (st' := [pw_i x]) rfl (fun _ => rfl) ?_
    refine pw_ld E (pc' := 50) (st' := [pw_i y, pw_i x]) rfl (fun _ => rfl) ?_
    refine pw_mul E (pc' := 51) rfl rfl ?_
    refine pw_nm (fun x4 hx4a hx4b => ?_)
    refine pw_iret E rfl ?_
    exact ⟨rfl, ⟨_, rfl, by omega, by omega⟩⟩
  · refine pw_tswJ (o := 51) E (pc' := 52) rfl (by omega) (by omega) (by omega) (by rw [hs1]; rfl) (by decide) ?_
    refine pw_ld E (pc' := 53) (st' := [pw_i x]) rfl (fun _ => rfl) ?_
    refine pw_ld E (pc' := 54) (st' := [pw_i y, pw_i x]) rfl (fun _ => rfl) ?_
    refine pw_if2 E (pc' := 61) rfl (by decide) (by omega) (by omega) (by omega) (by omega) ?_ ?_
    · intro hc5
      change y ≤ x at hc5
      refine pw_ld E (pc' := 62) (st' := [pw_i 0]) rfl (fun _ => rfl) ?_
      refine pw_iret E rfl ?_
      exact ⟨rfl, ⟨_, rfl, by omega, by omega⟩⟩
    · intro hc6
      change ¬ (y ≤ x) at hc6
      refine pw_ld E (pc' := 58) (st' := [pw_i 1]) rfl (fun _ => rfl) ?_
      refine pw_goto E (pc' := 62) rfl (by decide) ?_
      refine pw_iret E rfl ?_
      exact ⟨rfl, ⟨_, rfl, by omega, by omega⟩⟩
  · refine pw_tswJ (o := 62) E (pc' := 63) rfl (by omega) (by omega) (by omega) (by rw [hs1]; rfl) (by decide) ?_
    refine pw_ld E (pc' := 64) (st' := [pw_i x]) rfl (fun _ => rfl) ?_
    refine pw_ld E (pc' := 65) (st' := [pw_i y, pw_i x]) rfl (fun _ => rfl) ?_
    refine pw_if2 E (pc' := 72) rfl (by decide) (by omega) (by omega) (by omega) (by omega) ?_ ?_
    · intro hc7
      change x ≠ y at hc7
      refine pw_ld E (pc' := 73) (st' := [pw_i 0]) rfl (fun _ => rfl) ?_
      refine pw_iret E rfl ?_
      exact ⟨rfl, ⟨_, rfl, by omega, by omega⟩⟩
    · intro hc8
      change ¬ (x ≠ y) at hc8
      refine pw_ld E (pc' := 69) (st' := [pw_i 1]) rfl (fun _ => rfl) ?_
      refine pw_goto E (pc' := 73) rfl (by decide) ?_
      refine pw_iret E rfl ?_
      exact ⟨rfl, ⟨_, rfl, by omega, by omega⟩⟩
  · refine pw_tswJ (o := 73) E (pc' := 74) rfl (by omega) (by omega) (by omega) (by rw [hs1]; rfl) (by decide) ?_
    refine pw_ld E (pc' := 75) (st' := [pw_i x]) rfl (fun _ => rfl) ?_
    refine pw_if E (pc' := 86) rfl (by decide) (by omega) (by omega) ?_ ?_
    · intro hc9
      change x = (0 : Int) at hc9
      refine pw_ld E (pc' := 87) (st' := [pw_i 0]) rfl (fun _ => rfl) ?_
      refine pw_iret E rfl ?_
      exact ⟨rfl, ⟨_, rfl, by omega, by omega⟩⟩
    · intro hc10
      change ¬ (x = (0 : Int)) at hc10
      refine pw_ld E (pc' := 79) (st' := [pw_i y]) rfl (fun _ => rfl) ?_
      refine pw_if E (pc' := 86) rfl (by decide) (by omega) (by omega) ?_ ?_
      · intro hc11
        change y = (0 : Int) at hc11
        refine pw_ld E (pc' := 87) (st' := [pw_i 0]) rfl (fun _ => rfl) ?_
        refine pw_iret E rfl ?_
        exact ⟨rfl, ⟨_, rfl, by omega, by omega⟩⟩
      · intro hc12
        change ¬ (y = (0 : Int)) at hc12
        refine pw_ld E (pc' := 83) (st' := [pw_i 1]) rfl (fun _ => rfl) ?_
        refine pw_goto E (pc' := 87) rfl (by decide) ?_
        refine pw_iret E rfl ?_
        exact ⟨rfl, ⟨_, rfl, by omega, by omega⟩⟩
  · refine pw_tswD E (pc' := 88) rfl (by omega) (by omega) hs1 (by decide) ?_
    refine pw_ld E (pc' := 89) (st' := [pw_i x]) rfl (fun _ => rfl) ?_
    refine pw_if E (pc' := 96) rfl (by decide) (by omega) (by omega) ?_ ?_
    · intro hc13
      change x ≠ (0 : Int) at hc13
      refine pw_ld E (pc' := 97) (st' := [pw_i 1]) rfl (fun _ => rfl) ?_
      refine pw_goto E (pc' := 101) rfl (by decide) ?_
      refine pw_iret E rfl ?_
      exact ⟨rfl, ⟨_, rfl, by omega, by omega⟩⟩
    · intro hc14
      change ¬ (x ≠ (0 : Int)) at hc14
      refine pw_ld E (pc' := 93) (st' := [pw_i y]) rfl (fun _ => rfl) ?_
      refine pw_if E (pc' := 100) rfl (by decide) (by omega) (by omega) ?_ ?_
      · intro hc15
        change y = (0 : Int) at hc15
        refine pw_ld E (pc' := 101) (st' := [pw_i 0]) rfl (fun _ => rfl) ?_
        refine pw_iret E rfl ?_
        exact ⟨rfl, ⟨_, rfl, by omega, by omega⟩⟩
      · intro hc16
        change ¬ (y = (0 : Int)) at hc16
        refine pw_ld E (pc' := 97) (st' := [pw_i 1]) rfl (fun _ => rfl) ?_
        refine pw_goto E (pc' := 101) rfl (by decide) ?_
        refine pw_iret E rfl ?_
        exact ⟨rfl, ⟨_, rfl, by omega, by omega⟩⟩
set_option maxHeartbeats 4000000 in
theorem cm_264 {X : List (Nat × List Value)} {d : Nat} {h : pm_H} (hd : 2 ≤ d) (I : pw_I h) (f : Int) (hf1 : 0 ≤ f) (hf2 : f ≤ 9900) (hp0 : pw_Wk h f) : pw X d h 264 0 [some (.ref 141), some (pw_i f), none, none, none] [] (fun h' v => pw_I h' ∧ pw_E [150] h h' ∧ ∃ a : Int, v = .inl (some (pw_i a)) ∧ (-2147483648) ≤ a ∧ a ≤ 2147483647) := by
  have E : pm_ent 264 = some (2, 5, 12, 0, pmc_264) := rfl
  have E0 : pw_E [150] h h := pw_E.rf _ _
  obtain ⟨n, hn1, hn2, hnD, hn0⟩ := hp0
  refine pw_ld E (pc' := 1) (st' := [pw_i 0]) rfl (fun _ => rfl) ?_
  refine pw_istn E (pc' := 2) (ls' := [some (.ref 141), some (pw_i f), some (pw_i 0), none, none]) rfl rfl rfl rfl ?_
  refine pw_ld E (pc' := 3) (st' := [pw_i f]) rfl (fun _ => rfl) ?_
  refine pw_istn E (pc' := 4) (ls' := [some (.ref 141), some (pw_i f), some (pw_i 0), some (pw_i f), none]) rfl rfl rfl rfl ?_
  have L4 : ∀ (n4 : Nat) (k4_2 : Int) (k4_3 : Int) (k4_4 : Option Value) (gh4 : pm_H), pw_I gh4 → pw_E [150] h gh4 → 0 ≤ k4_2 → k4_2 ≤ 1099 → 0 ≤ k4_3 → k4_3 ≤ 9899 → (∃ j : Nat, j ≤ n ∧ k4_3 = f + j ∧ pw_D h f.toNat j k4_2) → (f + n - k4_3).toNat = n4 → pw X d gh4 264 4 [some (.ref 141), some (pw_i f), some (pw_i k4_2), some (pw_i k4_3), k4_4] [] (fun h' v => pw_I h' ∧ pw_E [150] h h' ∧ ∃ a : Int, v = .inl (some (pw_i a)) ∧ (-2147483648) ≤ a ∧ a ≤ 2147483647) := by
    intro n4
    induction n4 using Nat.strongRecOn with
    | ind n4 ih4 =>
      intro k4_2 k4_3 k4_4 gh4 I4 E4 k4_2a k4_2b k4_3a k4_3b hx4_0 hm4
      refine pw_ld E (pc' := 5) (st' := [.ref 141]) rfl (fun _ => rfl) ?_
      obtain ⟨j, hj1, hj2, hj3⟩ := hx4_0
      have hop : pw_g gh4 146 (k4_3).toNat = pw_g h 146 (f.toNat + j) := by rw [pw_Eg (c := 146) I E4 rfl rfl, show (k4_3).toNat = f.toNat + j by omega]
      have hjt := hj3.le
      refine pw_getR (b := 162) I4 E (c := 125) (k := 33) (pc' := 8) rfl rfl rfl rfl rfl rfl rfl ?_
      refine pw_ld E (pc' := 9) (st' := [pw_i k4_3, .ref 162]) rfl (fun _ => rfl) ?_
      refine pw_ald2 I4 E (c := 146) (pc' := 10) rfl rfl rfl (by decide) rfl (by decide) (by omega) (by omega) rfl (fun hf1a hf1b => ?_)
      refine pw_if E (pc' := 140) rfl (by decide) (by omega) (by omega) ?_ ?_
      · intro hc2
        change pw_g gh4 146 (k4_3.toNat) = (0 : Int) at hc2
        refine pw_ld E (pc' := 141) (st' := [.ref 141]) rfl (fun _ => rfl) ?_
        refine pw_getR (b := 166) I4 E (c := 125) (k := 37) (pc' := 144) rfl rfl rfl rfl rfl rfl rfl ?_
        refine pw_ld E (pc' := 145) (st' := [pw_i 0, .ref 166]) rfl (fun _ => rfl) ?_
        refine pw_ald2 I4 E (c := 150) (pc' := 146) rfl rfl rfl (by decide) rfl (by decide) (by omega) (by omega) rfl (fun hf3a hf3b => ?_)
        refine pw_iret E rfl ?_
        exact ⟨I4, E4, ⟨_, rfl, by omega, by omega⟩⟩
      · intro hc4
        change ¬ (pw_g gh4 146 (k4_3.toNat) = (0 : Int)) at hc4
        have hjn : j < n := Nat.lt_of_le_of_ne hj1 (fun q => by rw [q, hn0] at hop; omega)
        have hst := pw_D.st hnD hjn hj3
        have hs : (pw_g h 146 (f.toNat + j) = 1 ∨ (pw_g h 146 (f.toNat + j) = 2 ∧ 0 ≤ pw_g h 147 (f.toNat + j) ∧ pw_g h 147 (f.toNat + j) ≤ 9)) ∨ (pw_g h 146 (f.toNat + j) = 3 ∧ 1 ≤ k4_2) ∨ (4 ≤ pw_g h 146 (f.toNat + j) ∧ 2 ≤ k4_2) := by rcases hst with ⟨a, -⟩ | ⟨a, b, -⟩ | ⟨a, b, -⟩ <;> omega
        have hD1 : pw_g h 146 (f.toNat + j) = 1 ∨ pw_g h 146 (f.toNat + j) = 2 → pw_D h f.toNat (j + 1) (k4_2 + 1) := by intro q; rcases hst with ⟨a, b⟩ | ⟨a, _, b⟩ | ⟨a, _, b⟩ <;> first | exact b | (exfalso; omega)
        have hD2 : pw_g h 146 (f.toNat + j) = 3 → pw_D h f.toNat (j + 1) k4_2 := by intro q; rcases hst with ⟨a, b⟩ | ⟨a, _, b⟩ | ⟨a, _, b⟩ <;> first | (exfalso; omega) | exact b
        have hD3 : 4 ≤ pw_g h 146 (f.toNat + j) → pw_D h f.toNat (j + 1) (k4_2 + (-1)) := by intro q; rcases hst with ⟨a, b⟩ | ⟨a, _, b⟩ | ⟨a, _, b⟩ <;> first | (exfalso; omega) | (rw [← Int.sub_eq_add_neg]; exact b)
        refine pw_ld E (pc' := 14) (st' := [.ref 141]) rfl (fun _ => rfl) ?_
        refine pw_getR (b := 162) I4 E (c := 125) (k := 33) (pc' := 17) rfl rfl rfl rfl rfl rfl rfl ?_
        refine pw_ld E (pc' := 18) (st' := [pw_i k4_3, .ref 162]) rfl (fun _ => rfl) ?_
        refine pw_ald2 I4 E (c := 146) (pc' := 19) rfl rfl rfl (by decide) rfl (by decide) (by omega) (by omega) rfl (fun hf5a hf5b => ?_)
        refine pw_ist E (pc' := 21) (ls' := [some (.ref 141), some (pw_i f), some (pw_i k4_2), some (pw_i k4_3), some (pw_i (pw_g gh4 146 (k4_3.toNat)))]) rfl rfl rfl rfl ?_
        refine pw_ld E (pc' := 23) (st' := [pw_i (pw_g gh4 146 (k4_3.toNat))]) rfl (fun _ => rfl) ?_
        refine pw_ld E (pc' := 24) (st' := [pw_i 1, pw_i (pw_g gh4 146 (k4_3.toNat))]) rfl (fun _ => rfl) ?_
        refine pw_if2 E (pc' := 33) rfl (by decide) (by omega) (by omega) (by decide) (by decide) ?_ ?_
        · intro hc6
          change pw_g gh4 146 (k4_3.toNat) = (1 : Int) at hc6
          refine pw_ld E (pc' := 34) (st' := [.ref 141]) rfl (fun _ => rfl) ?_
          refine pw_getR (b := 166) I4 E (c := 125) (k := 37) (pc' := 37) rfl rfl rfl rfl rfl rfl rfl ?_
          refine pw_ld E (pc' := 38) (st' := [pw_i k4_2, .ref 166]) rfl (fun _ => rfl) ?_
          refine pw_ld E (pc' := 40) (st' := [pw_i (pw_g gh4 146 (k4_3.toNat)), pw_i k4_2, .ref 166]) rfl (fun _ => rfl) ?_
          refine pw_ld E (pc' := 41) (st' := [pw_i 1, pw_i (pw_g gh4 146 (k4_3.toNat)), pw_i k4_2, .ref 166]) rfl (fun _ => rfl) ?_
          refine pw_if2 E (pc' := 53) rfl (by decide) (by omega) (by omega) (by decide) (by decide) ?_ ?_
          · intro hc7
            change pw_g gh4 146 (k4_3.toNat) ≠ (1 : Int) at hc7
            exfalso; omega
          · intro hc8
            change ¬ (pw_g gh4 146 (k4_3.toNat) ≠ (1 : Int)) at hc8
            refine pw_ld E (pc' := 45) (st' := [.ref 141, pw_i k4_2, .ref 166]) rfl (fun _ => rfl) ?_
            refine pw_getR (b := 163) I4 E (c := 125) (k := 34) (pc' := 48) rfl rfl rfl rfl rfl rfl rfl ?_
            refine pw_ld E (pc' := 49) (st' := [pw_i k4_3, .ref 163, pw_i k4_2, .ref 166]) rfl (fun _ => rfl) ?_
            refine pw_ald2 I4 E (c := 147) (pc' := 50) rfl rfl rfl (by decide) rfl (by decide) (by omega) (by omega) rfl (fun hf9a hf9b => ?_)
            refine pw_goto E (pc' := 64) rfl (by decide) ?_
            refine pw_ast0 I4 E (c := 150) (pc' := 65) rfl rfl rfl (by decide) rfl (by decide) (by omega) (by omega) rfl (by omega) (by omega) (by omega) (by omega) rfl ?_
            intro h10I h10E
            generalize h10w : pw_w gh4 150 (k4_2.toNat) (pw_i (pw_g gh4 147 (k4_3.toNat))) = h10 at h10I h10E ⊢
            have h10F := E4.tr (h10E.wk (W' := [150]) (by first | rfl | simp))
            refine pw_inc E (pc' := 68) (ls' := [some (.ref 141), some (pw_i f), some (pw_i (k4_2 + 1)), some (pw_i k4_3), some (pw_i (pw_g gh4 146 (k4_3.toNat)))]) rfl rfl rfl rfl ?_
            refine pw_goto E (pc' := 134) rfl (by decide) ?_
            refine pw_inc E (pc' := 137) (ls' := [some (.ref 141), some (pw_i f), some (pw_i (k4_2 + 1)), some (pw_i (k4_3 + 1)), some (pw_i (pw_g gh4 146 (k4_3.toNat)))]) rfl rfl rfl rfl ?_
            refine pw_goto E (pc' := 4) rfl (by decide) ?_
            exact ih4 _ (by omega) (k4_2 + 1) (k4_3 + 1) (some (pw_i (pw_g gh4 146 (k4_3.toNat)))) h10 h10I h10F (by omega) (by omega) (by omega) (by omega) (by first | exact ⟨j + 1, by omega, by omega, hD1 (by omega)⟩ | exact ⟨j + 1, by omega, by omega, hD2 (by omega)⟩ | exact ⟨j + 1, by omega, by omega, hD3 (by omega)⟩) rfl
        · intro hc11
          change ¬ (pw_g gh4 146 (k4_3.toNat) = (1 : Int)) at hc11
          refine pw_ld E (pc' := 29) (st' := [pw_i (pw_g gh4 146 (k4_3.toNat))]) rfl (fun _ => rfl) ?_
          refine pw_ld E (pc' := 30) (st' := [pw_i 2, pw_i (pw_g gh4 146 (k4_3.toNat))]) rfl (fun _ => rfl) ?_
          refine pw_if2 E (pc' := 71) rfl (by decide) (by omega) (by omega) (by decide) (by decide) ?_ ?_
          · intro hc12
            change pw_g gh4 146 (k4_3.toNat) ≠ (2 : Int) at hc12
            refine pw_ld E (pc' := 73) (st' := [pw_i (pw_g gh4 146 (k4_3.toNat))]) rfl (fun _ => rfl) ?_
            refine pw_ld E (pc' := 74) (st' := [pw_i 3, pw_i (pw_g gh4 146 (k4_3.toNat))]) rfl (fun _ => rfl) ?_
            refine pw_if2 E (pc' := 104) rfl (by decide) (by omega) (by omega) (by decide) (by decide) ?_ ?_
            · intro hc13
              change pw_g gh4 146 (k4_3.toNat) ≠ (3 : Int) at hc13
              refine pw_inc E (pc' := 107) (ls' := [some (.ref 141), some (pw_i f), some (pw_i (k4_2 + (-1))), some (pw_i k4_3), some (pw_i (pw_g gh4 146 (k4_3.toNat)))]) rfl rfl rfl rfl ?_
              refine pw_ld E (pc' := 108) (st' := [.ref 141]) rfl (fun _ => rfl) ?_
              refine pw_getR (b := 166) I4 E (c := 125) (k := 37) (pc' := 111) rfl rfl rfl rfl rfl rfl rfl ?_
              refine pw_ld E (pc' := 112) (st' := [pw_i (k4_2 + (-1)), .ref 166]) rfl (fun _ => rfl) ?_
              refine pw_ld E (pc' := 113) (st' := [pw_i 1, pw_i (k4_2 + (-1)), .ref 166]) rfl (fun _ => rfl) ?_
              refine pw_sub E (pc' := 114) rfl rfl ?_
              refine pw_ld E (pc' := 116) (st' := [pw_i (pw_g gh4 146 (k4_3.toNat)), pw_i ((k4_2 + (-1)) - 1), .ref 166]) rfl (fun _ => rfl) ?_
              refine pw_ld E (pc' := 117) (st' := [.ref 141, pw_i (pw_g gh4 146 (k4_3.toNat)), pw_i ((k4_2 + (-1)) - 1), .ref 166]) rfl (fun _ => rfl) ?_
              refine pw_getR (b := 166) I4 E (c := 125) (k := 37) (pc' := 120) rfl rfl rfl rfl rfl rfl rfl ?_
              refine pw_ld E (pc' := 121) (st' := [pw_i (k4_2 + (-1)), .ref 166, pw_i (pw_g gh4 146 (k4_3.toNat)), pw_i ((k4_2 + (-1)) - 1), .ref 166]) rfl (fun _ => rfl) ?_
              refine pw_ld E (pc' := 122) (st' := [pw_i 1, pw_i (k4_2 + (-1)), .ref 166, pw_i (pw_g gh4 146 (k4_3.toNat)), pw_i ((k4_2 + (-1)) - 1), .ref 166]) rfl (fun _ => rfl) ?_
              refine pw_sub E (pc' := 123) rfl rfl ?_
              refine pw_ald2 I4 E (c := 150) (pc' := 124) rfl rfl rfl (by decide) rfl (by decide) (by omega) (by omega) rfl (fun hf14a hf14b => ?_)
              refine pw_ld E (pc' := 125) (st' := [.ref 141, pw_i (pw_g gh4 150 (((k4_2 + (-1)) - 1).toNat)), pw_i (pw_g gh4 146 (k4_3.toNat)), pw_i ((k4_2 + (-1)) - 1), .ref 166]) rfl (fun _ => rfl) ?_
              refine pw_getR (b := 166) I4 E (c := 125) (k := 37) (pc' := 128) rfl rfl rfl rfl rfl rfl rfl ?_
              refine pw_ld E (pc' := 129) (st' := [pw_i (k4_2 + (-1)), .ref 166, pw_i (pw_g gh4 150 (((k4_2 + (-1)) - 1).toNat)), pw_i (pw_g gh4 146 (k4_3.toNat)), pw_i ((k4_2 + (-1)) - 1), .ref 166]) rfl (fun _ => rfl) ?_
              refine pw_ald2 I4 E (c := 150) (pc' := 130) rfl rfl rfl (by decide) rfl (by decide) (by omega) (by omega) rfl (fun hf15a hf15b => ?_)
              refine pw_call (m' := 265) (As := [pw_i (pw_g gh4 146 (k4_3.toNat)), pw_i (pw_g gh4 150 (((k4_2 + (-1)) - 1).toNat)), pw_i (pw_g gh4 150 ((k4_2 + (-1)).toNat))]) (rest := [pw_i ((k4_2 + (-1)) - 1), .ref 166]) (ls'' := [some (pw_i (pw_g gh4 146 (k4_3.toNat))), some (pw_i (pw_g gh4 150 (((k4_2 + (-1)) - 1).toNat))), some (pw_i (pw_g gh4 150 ((k4_2 + (-1)).toNat)))]) (Nat.le_trans (by decide) hd) E rfl (fun _ => pw_iS rfl rfl rfl) (rfl : pm_ent 265 = some (3, 3, 12, 0, pmc_265)) rfl rfl (cm_265 (pw_dp hd (by decide)) I4 (pw_g gh4 146 (k4_3.toNat)) (by omega) (by omega) (pw_g gh4 150 (((k4_2 + (-1)) - 1).toNat)) (by omega) (by omega) (pw_g gh4 150 ((k4_2 + (-1)).toNat)) (by omega) (by omega)) ?_
              rintro u17 v16 ⟨rfl, x18, rfl, hx18a, hx18b⟩
              refine ⟨_, rfl, ?_⟩
              show pw X d gh4 264 133 [some (.ref 141), some (pw_i f), some (pw_i (k4_2 + (-1))), some (pw_i k4_3), some (pw_i (pw_g gh4 146 (k4_3.toNat)))] [pw_i x18, pw_i ((k4_2 + (-1)) - 1), .ref 166] _
              refine pw_ast0 I4 E (c := 150) (pc' := 134) rfl rfl rfl (by decide) rfl (by decide) (by omega) (by omega) rfl (by omega) (by omega) (by omega) (by omega) rfl ?_
              intro h19I h19E
              generalize h19w : pw_w gh4 150 (((k4_2 + (-1)) - 1).toNat) (pw_i x18) = h19 at h19I h19E ⊢
              have h19F := E4.tr (h19E.wk (W' := [150]) (by first | rfl | simp))
              refine pw_inc E (pc' := 137) (ls' := [some (.ref 141), some (pw_i f), some (pw_i (k4_2 + (-1))), some (pw_i (k4_3 + 1)), some (pw_i (pw_g gh4 146 (k4_3.toNat)))]) rfl rfl rfl rfl ?_
              refine pw_goto E (pc' := 4) rfl (by decide) ?_
              exact ih4 _ (by omega) (k4_2 + (-1)) (k4_3 + 1) (some (pw_i (pw_g gh4 146 (k4_3.toNat)))) h19 h19I h19F (by omega) (by omega) (by omega) (by omega) (by first | exact ⟨j + 1, by omega, by omega, hD1 (by omega)⟩ | exact ⟨j + 1, by omega, by omega, hD2 (by omega)⟩ | exact ⟨j + 1, by omega, by omega, hD3 (by omega)⟩) rfl
            · intro hc20
              change ¬ (pw_g gh4 146 (k4_3.toNat) ≠ (3 : Int)) at hc20
              refine pw_ld E (pc' := 78) (st' := [.ref 141]) rfl (fun _ => rfl) ?_
              refine pw_getR (b := 166) I4 E (c := 125) (k := 37) (pc' := 81) rfl rfl rfl rfl rfl rfl rfl ?_
              refine pw_ld E (pc' := 82) (st' := [pw_i k4_2, .ref 166]) rfl (fun _ => rfl) ?_
              refine pw_ld E (pc' := 83) (st' := [pw_i 1, pw_i k4_2, .ref 166]) rfl (fun _ => rfl) ?_
              refine pw_sub E (pc' := 84) rfl rfl ?_
              refine pw_ld E (pc' := 85) (st' := [.ref 141, pw_i (k4_2 - 1), .ref 166]) rfl (fun _ => rfl) ?_
              refine pw_getR (b := 166) I4 E (c := 125) (k := 37) (pc' := 88) rfl rfl rfl rfl rfl rfl rfl ?_
              refine pw_ld E (pc' := 89) (st' := [pw_i k4_2, .ref 166, pw_i (k4_2 - 1), .ref 166]) rfl (fun _ => rfl) ?_
              refine pw_ld E (pc' := 90) (st' := [pw_i 1, pw_i k4_2, .ref 166, pw_i (k4_2 - 1), .ref 166]) rfl (fun _ => rfl) ?_
              refine pw_sub E (pc' := 91) rfl rfl ?_
              refine pw_ald2 I4 E (c := 150) (pc' := 92) rfl rfl rfl (by decide) rfl (by decide) (by omega) (by omega) rfl (fun hf21a hf21b => ?_)
              refine pw_if E (pc' := 99) rfl (by decide) (by omega) (by omega) ?_ ?_
              · intro hc22
                change pw_g gh4 150 ((k4_2 - 1).toNat) ≠ (0 : Int) at hc22
                refine pw_ld E (pc' := 100) (st' := [pw_i 0, pw_i (k4_2 - 1), .ref 166]) rfl (fun _ => rfl) ?_
                refine pw_ast0 I4 E (c := 150) (pc' := 101) rfl rfl rfl (by decide) rfl (by decide) (by omega) (by omega) rfl (by omega) (by omega) (by omega) (by omega) rfl ?_
                intro h23I h23E
                generalize h23w : pw_w gh4 150 ((k4_2 - 1).toNat) (pw_i 0) = h23 at h23I h23E ⊢
                have h23F := E4.tr (h23E.wk (W' := [150]) (by first | rfl | simp))
                refine pw_goto E (pc' := 134) rfl (by decide) ?_
                refine pw_inc E (pc' := 137) (ls' := [some (.ref 141), some (pw_i f), some (pw_i k4_2), some (pw_i (k4_3 + 1)), some (pw_i (pw_g gh4 146 (k4_3.toNat)))]) rfl rfl rfl rfl ?_
                refine pw_goto E (pc' := 4) rfl (by decide) ?_
                exact ih4 _ (by omega) (k4_2) (k4_3 + 1) (some (pw_i (pw_g gh4 146 (k4_3.toNat)))) h23 h23I h23F (by omega) (by omega) (by omega) (by omega) (by first | exact ⟨j + 1, by omega, by omega, hD1 (by omega)⟩ | exact ⟨j + 1, by omega, by omega, hD2 (by omega)⟩ | exact ⟨j + 1, by omega, by omega, hD3 (by omega)⟩) rfl
              · intro hc24
                change ¬ (pw_g gh4 150 ((k4_2 - 1).toNat) ≠ (0 : Int)) at hc24
                refine pw_ld E (pc' := 96) (st' := [pw_i 1, pw_i (k4_2 - 1), .ref 166]) rfl (fun _ => rfl) ?_
                refine pw_goto E (pc' := 100) rfl (by decide) ?_
                refine pw_ast0 I4 E (c := 150) (pc' := 101) rfl rfl rfl (by decide) rfl (by decide) (by omega) (by omega) rfl (by omega) (by omega) (by omega) (by omega) rfl ?_
                intro h25I h25E
                generalize h25w : pw_w gh4 150 ((k4_2 - 1).toNat) (pw_i 1) = h25 at h25I h25E ⊢
                have h25F := E4.tr (h25E.wk (W' := [150]) (by first | rfl | simp))
                refine pw_goto E (pc' := 134) rfl (by decide) ?_
                refine pw_inc E (pc' := 137) (ls' := [some (.ref 141), some (pw_i f), some (pw_i k4_2), some (pw_i (k4_3 + 1)), some (pw_i (pw_g gh4 146 (k4_3.toNat)))]) rfl rfl rfl rfl ?_
                refine pw_goto E (pc' := 4) rfl (by decide) ?_
                exact ih4 _ (by omega) (k4_2) (k4_3 + 1) (some (pw_i (pw_g gh4 146 (k4_3.toNat)))) h25 h25I h25F (by omega) (by omega) (by omega) (by omega) (by first | exact ⟨j + 1, by omega, by omega, hD1 (by omega)⟩ | exact ⟨j + 1, by omega, by omega, hD2 (by omega)⟩ | exact ⟨j + 1, by omega, by omega, hD3 (by omega)⟩) rfl
          · intro hc26
            change ¬ (pw_g gh4 146 (k4_3.toNat) ≠ (2 : Int)) at hc26
            refine pw_ld E (pc' := 34) (st' := [.ref 141]) rfl (fun _ => rfl) ?_
            refine pw_getR (b := 166) I4 E (c := 125) (k := 37) (pc' := 37) rfl rfl rfl rfl rfl rfl rfl ?_
            refine pw_ld E (pc' := 38) (st' := [pw_i k4_2, .ref 166]) rfl (fun _ => rfl) ?_
            refine pw_ld E (pc' := 40) (st' := [pw_i (pw_g gh4 146 (k4_3.toNat)), pw_i k4_2, .ref 166]) rfl (fun _ => rfl) ?_
            refine pw_ld E (pc' := 41) (st' := [pw_i 1, pw_i (pw_g gh4 146 (k4_3.toNat)), pw_i k4_2, .ref 166]) rfl (fun _ => rfl) ?_
            refine pw_if2 E (pc' := 53) rfl (by decide) (by omega) (by omega) (by decide) (by decide) ?_ ?_
            · intro hc27
              change pw_g gh4 146 (k4_3.toNat) ≠ (1 : Int) at hc27
              have harg : pw_g gh4 147 (k4_3).toNat = pw_g h 147 (f.toNat + j) := by rw [pw_Eg (c := 147) I E4 rfl rfl, show (k4_3).toNat = f.toNat + j by omega]
              refine pw_ld E (pc' := 54) (st' := [.ref 141, pw_i k4_2, .ref 166]) rfl (fun _ => rfl) ?_
              refine pw_getR (b := 165) I4 E (c := 125) (k := 36) (pc' := 57) rfl rfl rfl rfl rfl rfl rfl ?_
              refine pw_ld E (pc' := 58) (st' := [.ref 141, .ref 165, pw_i k4_2, .ref 166]) rfl (fun _ => rfl) ?_
              refine pw_getR (b := 163) I4 E (c := 125) (k := 34) (pc' := 61) rfl rfl rfl rfl rfl rfl rfl ?_
              refine pw_ld E (pc' := 62) (st' := [pw_i k4_3, .ref 163, .ref 165, pw_i k4_2, .ref 166]) rfl (fun _ => rfl) ?_
              refine pw_ald2 I4 E (c := 147) (pc' := 63) rfl rfl rfl (by decide) rfl (by decide) (by omega) (by omega) rfl (fun hf28a hf28b => ?_)
              refine pw_ald2 I4 E (c := 149) (pc' := 64) rfl rfl rfl (by decide) rfl (by decide) (by omega) (by omega) rfl (fun hf29a hf29b => ?_)
              refine pw_ast0 I4 E (c := 150) (pc' := 65) rfl rfl rfl (by decide) rfl (by decide) (by omega) (by omega) rfl (by omega) (by omega) (by omega) (by omega) rfl ?_
              intro h30I h30E
              generalize h30w : pw_w gh4 150 (k4_2.toNat) (pw_i (pw_g gh4 149 ((pw_g gh4 147 (k4_3.toNat)).toNat))) = h30 at h30I h30E ⊢
              have h30F := E4.tr (h30E.wk (W' := [150]) (by first | rfl | simp))
              refine pw_inc E (pc' := 68) (ls' := [some (.ref 141), some (pw_i f), some (pw_i (k4_2 + 1)), some (pw_i k4_3), some (pw_i (pw_g gh4 146 (k4_3.toNat)))]) rfl rfl rfl rfl ?_
              refine pw_goto E (pc' := 134) rfl (by decide) ?_
              refine pw_inc E (pc' := 137) (ls' := [some (.ref 141), some (pw_i f), some (pw_i (k4_2 + 1)), some (pw_i (k4_3 + 1)), some (pw_i (pw_g gh4 146 (k4_3.toNat)))]) rfl rfl rfl rfl ?_
              refine pw_goto E (pc' := 4) rfl (by decide) ?_
              exact ih4 _ (by omega) (k4_2 + 1) (k4_3 + 1) (some (pw_i (pw_g gh4 146 (k4_3.toNat)))) h30 h30I h30F (by omega) (by omega) (by omega) (by omega) (by first | exact ⟨j + 1, by omega, by omega, hD1 (by omega)⟩ | exact ⟨j + 1, by omega, by omega, hD2 (by omega)⟩ | exact ⟨j + 1, by omega, by omega, hD3 (by omega)⟩) rfl
            · intro hc31
              change ¬ (pw_g gh4 146 (k4_3.toNat) ≠ (1 : Int)) at hc31
              exfalso; omega
  exact L4 _ (0) (f) (none) h I E0 (by omega) (by omega) (by omega) (by omega) ⟨0, by omega, by omega, rfl⟩ rfl
set_option maxHeartbeats 4000000 in
theorem cm_263 {X : List (Nat × List Value)} {d : Nat} {h : pm_H} (hd : 3 ≤ d) (I : pw_I h) (l : Int) (hl1 : 0 ≤ l) (hl2 : l ≤ 3) (li : Int) (hli1 : 0 ≤ li) (hli2 : li ≤ 3) (hp0 : pw_K h) (hp1 : 0 ≤ pw_g h 145 (4 * l + li).toNat) : pw X d h 263 0 [some (.ref 141), some (pw_i l), some (pw_i li)] [] (fun h' v => pw_I h' ∧ pw_E [150] h h' ∧ ∃ a : Int, v = .inl (some (pw_i a)) ∧ (-2147483648) ≤ a ∧ a ≤ 2147483647) := by
  have E : pm_ent 263 = some (3, 3, 12, 0, pmc_263) := rfl
  have E0 : pw_E [150] h h := pw_E.rf _ _
  refine pw_ld E (pc' := 1) (st' := [.ref 141]) rfl (fun _ => rfl) ?_
  refine pw_sip E (pc' := 4) rfl rfl (by decide) ?_
  refine pw_ld E (pc' := 5) (st' := [pw_i l, pw_i 1100, .ref 141]) rfl (fun _ => rfl) ?_
  refine pw_mul E (pc' := 6) rfl rfl ?_
  refine pw_ld E (pc' := 7) (st' := [.ref 141, pw_i (1100 * l), .ref 141]) rfl (fun _ => rfl) ?_
  refine pw_getR (b := 161) I E (c := 125) (k := 31) (pc' := 10) rfl rfl rfl rfl rfl rfl rfl ?_
  refine pw_ld E (pc' := 11) (st' := [pw_i 4, .ref 161, pw_i (1100 * l), .ref 141]) rfl (fun _ => rfl) ?_
  refine pw_ld E (pc' := 12) (st' := [pw_i l, pw_i 4, .ref 161, pw_i (1100 * l), .ref 141]) rfl (fun _ => rfl) ?_
  refine pw_mul E (pc' := 13) rfl rfl ?_
  refine pw_ld E (pc' := 14) (st' := [pw_i li, pw_i (4 * l), .ref 161, pw_i (1100 * l), .ref 141]) rfl (fun _ => rfl) ?_
  refine pw_add E (pc' := 15) rfl rfl ?_
  refine pw_ald2 I E (c := 145) (pc' := 16) rfl rfl rfl (by decide) rfl (by decide) (by omega) (by omega) rfl (fun hf1a hf1b => ?_)
  refine pw_add E (pc' := 17) rfl rfl ?_
  obtain ⟨f2l, f2h, -⟩ := pw_obj (c := 125) I rfl
  refine pw_call (m' := 264) (As := [.ref 141, pw_i ((1100 * l) + (pw_g h 145 (((4 * l) + li).toNat)))]) (rest := []) (ls'' := [some (.ref 141), some (pw_i ((1100 * l) + (pw_g h 145 (((4 * l) + li).toNat)))), none, none, none]) (Nat.le_trans (by decide) hd) E rfl (fun _ => pw_iV rfl rfl rfl rfl (pw_cellI f2h rfl)) (rfl : pm_ent 264 = some (2, 5, 12, 0, pmc_264)) rfl rfl (cm_264 (pw_dp hd (by decide)) I ((1100 * l) + (pw_g h 145 (((4 * l) + li).toNat))) (by omega) (by omega) (pw_Wk.of1 hp0 (by omega) (by omega) (by omega) (by omega) hp1)) ?_
  rintro h3 v4 ⟨h3I, h3E, x5, rfl, hx5a, hx5b⟩
  refine ⟨_, rfl, ?_⟩
  have h3F := E0.tr (h3E.wk (W' := [150]) (by first | rfl | simp))
  show pw X d h3 263 20 [some (.ref 141), some (pw_i l), some (pw_i li)] [pw_i x5] _
  refine pw_iret E rfl ?_
  exact ⟨h3I, h3F, ⟨_, rfl, by omega, by omega⟩⟩
set_option maxHeartbeats 4000000 in
theorem cm_262 {X : List (Nat × List Value)} {d : Nat} {h : pm_H} (hd : 4 ≤ d) (I : pw_I h) (l : Int) (hl1 : 0 ≤ l) (hl2 : l ≤ 3) (li : Int) (hli1 : 0 ≤ li) (hli2 : li ≤ 3) (hp0 : pw_K h) : pw X d h 262 0 [some (.ref 141), some (pw_i l), some (pw_i li)] [] (fun h' v => pw_I h' ∧ pw_E [150] h h' ∧ ∃ a : Int, v = .inl (some (pw_i a)) ∧ 0 ≤ a ∧ a ≤ 1) := by
  have E : pm_ent 262 = some (3, 3, 12, 1, pmc_262) := rfl
  have E0 : pw_E [150] h h := pw_E.rf _ _
  refine pw_ld E (pc' := 1) (st' := [.ref 141]) rfl (fun _ => rfl) ?_
  refine pw_getR (b := 161) I E (c := 125) (k := 31) (pc' := 4) rfl rfl rfl rfl rfl rfl rfl ?_
  refine pw_ld E (pc' := 5) (st' := [pw_i 4, .ref 161]) rfl (fun _ => rfl) ?_
  refine pw_ld E (pc' := 6) (st' := [pw_i l, pw_i 4, .ref 161]) rfl (fun _ => rfl) ?_
  refine pw_mul E (pc' := 7) rfl rfl ?_
  refine pw_ld E (pc' := 8) (st' := [pw_i li, pw_i (4 * l), .ref 161]) rfl (fun _ => rfl) ?_
  refine pw_add E (pc' := 9) rfl rfl ?_
  refine pw_ald2 I E (c := 145) (pc' := 10) rfl rfl rfl (by decide) rfl (by decide) (by omega) (by omega) rfl (fun hf1a hf1b => ?_)
  refine pw_if E (pc' := 26) rfl (by decide) (by omega) (by omega) ?_ ?_
  · intro hc2
    change pw_g h 145 (((4 * l) + li).toNat) < (0 : Int) at hc2
    refine pw_ld E (pc' := 27) (st' := [pw_i 0]) rfl (fun _ => rfl) ?_
    refine pw_zret E rfl (by omega) ?_
    exact ⟨I, E0, ⟨_, rfl, by omega, by omega⟩⟩
  · intro hc3
    change ¬ (pw_g h 145 (((4 * l) + li).toNat) < (0 : Int)) at hc3
    refine pw_ld E (pc' := 14) (st' := [.ref 141]) rfl (fun _ => rfl) ?_
    refine pw_ld E (pc' := 15) (st' := [pw_i l, .ref 141]) rfl (fun _ => rfl) ?_
    refine pw_ld E (pc' := 16) (st' := [pw_i li, pw_i l, .ref 141]) rfl (fun _ => rfl) ?_
    obtain ⟨f4l, f4h, -⟩ := pw_obj (c := 125) I rfl
    refine pw_call (m' := 263) (As := [.ref 141, pw_i l, pw_i li]) (rest := []) (ls'' := [some (.ref 141), some (pw_i l), some (pw_i li)]) (Nat.le_trans (by decide) hd) E rfl (fun _ => pw_iV rfl rfl rfl rfl (pw_cellI f4h rfl)) (rfl : pm_ent 263 = some (3, 3, 12, 0, pmc_263)) rfl rfl (cm_263 (pw_dp hd (by decide)) I (l) (by omega) (by omega) (li) (by omega) (by omega) (pw_KE I E0 hp0 rfl) (by omega)) ?_
    rintro h5 v6 ⟨h5I, h5E, x7, rfl, hx7a, hx7b⟩
    refine ⟨_, rfl, ?_⟩
    have h5F := E0.tr (h5E.wk (W' := [150]) (by first | rfl | simp))
    show pw X d h5 262 19 [some (.ref 141), some (pw_i l), some (pw_i li)] [pw_i x7] _
    refine pw_if E (pc' := 26) rfl (by decide) (by omega) (by omega) ?_ ?_
    · intro hc8
      change x7 = (0 : Int) at hc8
      refine pw_ld E (pc' := 27) (st' := [pw_i 0]) rfl (fun _ => rfl) ?_
      refine pw_zret E rfl (by omega) ?_
      exact ⟨h5I, h5F, ⟨_, rfl, by omega, by omega⟩⟩
    · intro hc9
      change ¬ (x7 = (0 : Int)) at hc9
      refine pw_ld E (pc' := 23) (st' := [pw_i 1]) rfl (fun _ => rfl) ?_
      refine pw_goto E (pc' := 27) rfl (by decide) ?_
      refine pw_zret E rfl (by omega) ?_
      exact ⟨h5I, h5F, ⟨_, rfl, by omega, by omega⟩⟩
set_option maxHeartbeats 4000000 in
theorem cm_266 {X : List (Nat × List Value)} {d : Nat} {h : pm_H} (hd : 4 ≤ d) (I : pw_I h) (l : Int) (hl1 : 0 ≤ l) (hl2 : l ≤ 3) (li : Int) (hli1 : 0 ≤ li) (hli2 : li ≤ 3) (was : Int) (hwas1 : 0 ≤ was) (hwas2 : was ≤ 99) (hp0 : pw_K h) : pw X d h 266 0 [some (.ref 141), some (pw_i l), some (pw_i li), some (pw_i was), none] [] (fun h' v => pw_I h' ∧ pw_E [150] h h' ∧ ∃ a : Int, v = .inl (some (pw_i a)) ∧ 0 ≤ a ∧ a ≤ 99) := by
  have E : pm_ent 266 = some (4, 5, 12, 0, pmc_266) := rfl
  have E0 : pw_E [150] h h := pw_E.rf _ _
  refine pw_ld E (pc' := 1) (st' := [.ref 141]) rfl (fun _ => rfl) ?_
  refine pw_getR (b := 161) I E (c := 125) (k := 31) (pc' := 4) rfl rfl rfl rfl rfl rfl rfl ?_
  refine pw_ld E (pc' := 5) (st' := [pw_i 4, .ref 161]) rfl (fun _ => rfl) ?_
  refine pw_ld E (pc' := 6) (st' := [pw_i l, pw_i 4, .ref 161]) rfl (fun _ => rfl) ?_
  refine pw_mul E (pc' := 7) rfl rfl ?_
  refine pw_ld E (pc' := 8) (st' := [pw_i li, pw_i (4 * l), .ref 161]) rfl (fun _ => rfl) ?_
  refine pw_add E (pc' := 9) rfl rfl ?_
  refine pw_ald2 I E (c := 145) (pc' := 10) rfl rfl rfl (by decide) rfl (by decide) (by omega) (by omega) rfl (fun hf1a hf1b => ?_)
  refine pw_if E (pc' := 15) rfl (by decide) (by omega) (by omega) ?_ ?_
  · intro hc2
    change (0 : Int) ≤ pw_g h 145 (((4 * l) + li).toNat) at hc2
    refine pw_ld E (pc' := 16) (st' := [.ref 141]) rfl (fun _ => rfl) ?_
    refine pw_ld E (pc' := 17) (st' := [pw_i l, .ref 141]) rfl (fun _ => rfl) ?_
    refine pw_ld E (pc' := 18) (st' := [pw_i li, pw_i l, .ref 141]) rfl (fun _ => rfl) ?_
    obtain ⟨f3l, f3h, -⟩ := pw_obj (c := 125) I rfl
    refine pw_call (m' := 263) (As := [.ref 141, pw_i l, pw_i li]) (rest := []) (ls'' := [some (.ref 141), some (pw_i l), some (pw_i li)]) (Nat.le_trans (by decide) hd) E rfl (fun _ => pw_iV rfl rfl rfl rfl (pw_cellI f3h rfl)) (rfl : pm_ent 263 = some (3, 3, 12, 0, pmc_263)) rfl rfl (cm_263 (pw_dp hd (by decide)) I (l) (by omega) (by omega) (li) (by omega) (by omega) (pw_KE I E0 hp0 rfl) (by omega)) ?_
    rintro h4 v5 ⟨h4I, h4E, x6, rfl, hx6a, hx6b⟩
    refine ⟨_, rfl, ?_⟩
    have h4F := E0.tr (h4E.wk (W' := [150]) (by first | rfl | simp))
    show pw X d h4 266 21 [some (.ref 141), some (pw_i l), some (pw_i li), some (pw_i was), none] [pw_i x6] _
    refine pw_ist E (pc' := 23) (ls' := [some (.ref 141), some (pw_i l), some (pw_i li), some (pw_i was), some (pw_i x6)]) rfl rfl rfl rfl ?_
    refine pw_ld E (pc' := 25) (st' := [pw_i x6]) rfl (fun _ => rfl) ?_
    refine pw_if E (pc' := 32) rfl (by decide) (by omega) (by omega) ?_ ?_
    · intro hc7
      change (0 : Int) ≤ x6 at hc7
      refine pw_ld E (pc' := 34) (st' := [pw_i x6]) rfl (fun _ => rfl) ?_
      refine pw_bip E (pc' := 36) rfl rfl (by decide) ?_
      refine pw_if2 E (pc' := 44) rfl (by decide) (by omega) (by omega) (by decide) (by decide) ?_ ?_
      · intro hc8
        change x6 ≤ (99 : Int) at hc8
        refine pw_ld E (pc' := 46) (st' := [pw_i x6]) rfl (fun _ => rfl) ?_
        refine pw_iret E rfl ?_
        exact ⟨h4I, h4F, ⟨_, rfl, by omega, by omega⟩⟩
      · intro hc9
        change ¬ (x6 ≤ (99 : Int)) at hc9
        refine pw_bip E (pc' := 41) rfl rfl (by decide) ?_
        refine pw_goto E (pc' := 46) rfl (by decide) ?_
        refine pw_iret E rfl ?_
        exact ⟨h4I, h4F, ⟨_, rfl, by omega, by omega⟩⟩
    · intro hc10
      change ¬ ((0 : Int) ≤ x6) at hc10
      refine pw_ld E (pc' := 29) (st' := [pw_i 0]) rfl (fun _ => rfl) ?_
      refine pw_goto E (pc' := 46) rfl (by decide) ?_
      refine pw_iret E rfl ?_
      exact ⟨h4I, h4F, ⟨_, rfl, by omega, by omega⟩⟩
  · intro hc11
    change ¬ ((0 : Int) ≤ pw_g h 145 (((4 * l) + li).toNat)) at hc11
    refine pw_ld E (pc' := 14) (st' := [pw_i was]) rfl (fun _ => rfl) ?_
    refine pw_iret E rfl ?_
    exact ⟨I, E0, ⟨_, rfl, by omega, by omega⟩⟩
set_option maxHeartbeats 4000000 in
theorem cm_261 {X : List (Nat × List Value)} {d : Nat} {h : pm_H} (hd : 5 ≤ d) (I : pw_I h) (l : Int) (hl1 : 0 ≤ l) (hl2 : l ≤ 3) (k : Int) (hk1 : 0 ≤ k) (hk2 : k ≤ 23) (mo : Int) (hmo1 : 1 ≤ mo) (hmo2 : mo ≤ 11) (dr : Int) (hdr1 : (-2147483648) ≤ dr) (hdr2 : dr ≤ 2147483647) (hp0 : pw_K h) : pw X d h 261 0 [some (.ref 141), some (pw_i l), some (pw_i k), some (pw_i mo), some (pw_i dr), none, none, none, none] [] (fun h' v => pw_I h' ∧ pw_E [149, 150, 151, 152, 153] h h' ∧ v = .inl none) := by
  have E : pm_ent 261 = some (5, 9, 12, 4, pmc_261) := rfl
  have E0 : pw_E [149, 150, 151, 152, 153] h h := pw_E.rf _ _
  refine pw_bip E (pc' := 2) rfl rfl (by decide) ?_
  refine pw_ld E (pc' := 3) (st' := [pw_i k, pw_i 12]) rfl (fun _ => rfl) ?_
  refine pw_mul E (pc' := 4) rfl rfl ?_
  refine pw_ld E (pc' := 5) (st' := [pw_i mo, pw_i (12 * k)]) rfl (fun _ => rfl) ?_
  refine pw_add E (pc' := 6) rfl rfl ?_
  refine pw_ist E (pc' := 8) (ls' := [some (.ref 141), some (pw_i l), some (pw_i k), some (pw_i mo), some (pw_i dr), some (pw_i ((12 * k) + mo)), none, none, none]) rfl rfl rfl rfl ?_
  refine pw_ld E (pc' := 9) (st' := [.ref 141]) rfl (fun _ => rfl) ?_
  refine pw_getR (b := 152) I E (c := 125) (k := 16) (pc' := 12) rfl rfl rfl rfl rfl rfl rfl ?_
  refine pw_bip E (pc' := 14) rfl rfl (by decide) ?_
  refine pw_ld E (pc' := 15) (st' := [.ref 141, pw_i 12, .ref 152]) rfl (fun _ => rfl) ?_
  refine pw_getR (b := 148) I E (c := 125) (k := 11) (pc' := 18) rfl rfl rfl rfl rfl rfl rfl ?_
  refine pw_ld E (pc' := 19) (st' := [pw_i k, .ref 148, pw_i 12, .ref 152]) rfl (fun _ => rfl) ?_
  refine pw_ald2 I E (c := 132) (pc' := 20) rfl rfl rfl (by decide) rfl (by decide) (by omega) (by omega) rfl (fun hf1a hf1b => ?_)
  refine pw_mul E (pc' := 21) rfl rfl ?_
  refine pw_ld E (pc' := 22) (st' := [pw_i mo, pw_i (12 * (pw_g h 132 (k.toNat))), .ref 152]) rfl (fun _ => rfl) ?_
  refine pw_add E (pc' := 23) rfl rfl ?_
  refine pw_ald2 I E (c := 136) (pc' := 24) rfl rfl rfl (by decide) rfl (by decide) (by omega) (by omega) rfl (fun hf2a hf2b => ?_)
  refine pw_ist E (pc' := 26) (ls' := [some (.ref 141), some (pw_i l), some (pw_i k), some (pw_i mo), some (pw_i dr), some (pw_i ((12 * k) + mo)), some (pw_i (pw_g h 136 (((12 * (pw_g h 132 (k.toNat))) + mo).toNat))), none, none]) rfl rfl rfl rfl ?_
  refine pw_ld E (pc' := 27) (st' := [.ref 141]) rfl (fun _ => rfl) ?_
  refine pw_getR (b := 169) I E (c := 125) (k := 40) (pc' := 30) rfl rfl rfl rfl rfl rfl rfl ?_
  refine pw_ld E (pc' := 32) (st' := [pw_i ((12 * k) + mo), .ref 169]) rfl (fun _ => rfl) ?_
  refine pw_ld E (pc' := 33) (st' := [pw_i 1, pw_i ((12 * k) + mo), .ref 169]) rfl (fun _ => rfl) ?_
  refine pw_sub E (pc' := 34) rfl rfl ?_
  refine pw_ald2 I E (c := 153) (pc' := 35) rfl rfl rfl (by decide) rfl (by decide) (by omega) (by omega) rfl (fun hf3a hf3b => ?_)
  refine pw_ist E (pc' := 37) (ls' := [some (.ref 141), some (pw_i l), some (pw_i k), some (pw_i mo), some (pw_i dr), some (pw_i ((12 * k) + mo)), some (pw_i (pw_g h 136 (((12 * (pw_g h 132 (k.toNat))) + mo).toNat))), some (pw_i (pw_g h 153 ((((12 * k) + mo) - 1).toNat))), none]) rfl rfl rfl rfl ?_
  refine pw_ld E (pc' := 38) (st' := [.ref 141]) rfl (fun _ => rfl) ?_
  refine pw_getR (b := 165) I E (c := 125) (k := 36) (pc' := 41) rfl rfl rfl rfl rfl rfl rfl ?_
  refine pw_ld E (pc' := 42) (st' := [pw_i 0, .ref 165]) rfl (fun _ => rfl) ?_
  refine pw_ld E (pc' := 43) (st' := [.ref 141, pw_i 0, .ref 165]) rfl (fun _ => rfl) ?_
  refine pw_getR (b := 167) I E (c := 125) (k := 38) (pc' := 46) rfl rfl rfl rfl rfl rfl rfl ?_
  refine pw_ld E (pc' := 48) (st' := [pw_i ((12 * k) + mo), .ref 167, pw_i 0, .ref 165]) rfl (fun _ => rfl) ?_
  refine pw_ld E (pc' := 49) (st' := [pw_i 1, pw_i ((12 * k) + mo), .ref 167, pw_i 0, .ref 165]) rfl (fun _ => rfl) ?_
  refine pw_sub E (pc' := 50) rfl rfl ?_
  refine pw_ald2 I E (c := 151) (pc' := 51) rfl rfl rfl (by decide) rfl (by decide) (by omega) (by omega) rfl (fun hf4a hf4b => ?_)
  refine pw_ast0 I E (c := 149) (pc' := 52) rfl rfl rfl (by decide) rfl (by decide) (by omega) (by omega) rfl (by omega) (by omega) (by omega) (by omega) rfl ?_
  intro h5I h5E
  generalize h5w : pw_w h 149 (Int.toNat 0) (pw_i (pw_g h 151 ((((12 * k) + mo) - 1).toNat))) = h5 at h5I h5E ⊢
  have h5F := E0.tr (h5E.wk (W' := [149, 150, 151, 152, 153]) (by first | rfl | simp))
  refine pw_ld E (pc' := 53) (st' := [.ref 141]) rfl (fun _ => rfl) ?_
  refine pw_getR (b := 165) h5I E (c := 125) (k := 36) (pc' := 56) rfl rfl rfl rfl rfl rfl rfl ?_
  refine pw_ld E (pc' := 57) (st' := [pw_i 1, .ref 165]) rfl (fun _ => rfl) ?_
  refine pw_ld E (pc' := 58) (st' := [.ref 141, pw_i 1, .ref 165]) rfl (fun _ => rfl) ?_
  refine pw_getR (b := 168) h5I E (c := 125) (k := 39) (pc' := 61) rfl rfl rfl rfl rfl rfl rfl ?_
  refine pw_ld E (pc' := 63) (st' := [pw_i ((12 * k) + mo), .ref 168, pw_i 1, .ref 165]) rfl (fun _ => rfl) ?_
  refine pw_ld E (pc' := 64) (st' := [pw_i 1, pw_i ((12 * k) + mo), .ref 168, pw_i 1, .ref 165]) rfl (fun _ => rfl) ?_
  refine pw_sub E (pc' := 65) rfl rfl ?_
  refine pw_ald2 h5I E (c := 152) (pc' := 66) rfl rfl rfl (by decide) rfl (by decide) (by omega) (by omega) rfl (fun hf6a hf6b => ?_)
  refine pw_ast0 h5I E (c := 149) (pc' := 67) rfl rfl rfl (by decide) rfl (by decide) (by omega) (by omega) rfl (by omega) (by omega) (by omega) (by omega) rfl ?_
  intro h7I h7E
  generalize h7w : pw_w h5 149 (Int.toNat 1) (pw_i (pw_g h5 152 ((((12 * k) + mo) - 1).toNat))) = h7 at h7I h7E ⊢
  have h7F := h5F.tr (h7E.wk (W' := [149, 150, 151, 152, 153]) (by first | rfl | simp))
  refine pw_ld E (pc' := 68) (st' := [.ref 141]) rfl (fun _ => rfl) ?_
  refine pw_getR (b := 165) h7I E (c := 125) (k := 36) (pc' := 71) rfl rfl rfl rfl rfl rfl rfl ?_
  refine pw_ld E (pc' := 72) (st' := [pw_i 2, .ref 165]) rfl (fun _ => rfl) ?_
  refine pw_ld E (pc' := 73) (st' := [.ref 141, pw_i 2, .ref 165]) rfl (fun _ => rfl) ?_
  refine pw_getR (b := 149) h7I E (c := 125) (k := 12) (pc' := 76) rfl rfl rfl rfl rfl rfl rfl ?_
  refine pw_ld E (pc' := 77) (st' := [pw_i k, .ref 149, pw_i 2, .ref 165]) rfl (fun _ => rfl) ?_
  refine pw_ald2 h7I E (c := 133) (pc' := 78) rfl rfl rfl (by decide) rfl (by decide) (by omega) (by omega) rfl (fun hf8a hf8b => ?_)
  refine pw_ast0 h7I E (c := 149) (pc' := 79) rfl rfl rfl (by decide) rfl (by decide) (by omega) (by omega) rfl (by omega) (by omega) (by omega) (by omega) rfl ?_
  intro h9I h9E
  generalize h9w : pw_w h7 149 (Int.toNat 2) (pw_i (pw_g h7 133 (k.toNat))) = h9 at h9I h9E ⊢
  have h9F := h7F.tr (h9E.wk (W' := [149, 150, 151, 152, 153]) (by first | rfl | simp))
  refine pw_ld E (pc' := 80) (st' := [.ref 141]) rfl (fun _ => rfl) ?_
  refine pw_getR (b := 165) h9I E (c := 125) (k := 36) (pc' := 83) rfl rfl rfl rfl rfl rfl rfl ?_
  refine pw_ld E (pc' := 84) (st' := [pw_i 3, .ref 165]) rfl (fun _ => rfl) ?_
  refine pw_ld E (pc' := 86) (st' := [pw_i (pw_g h 136 (((12 * (pw_g h 132 (k.toNat))) + mo).toNat)), pw_i 3, .ref 165]) rfl (fun _ => rfl) ?_
  refine pw_ast0 h9I E (c := 149) (pc' := 87) rfl rfl rfl (by decide) rfl (by decide) (by omega) (by omega) rfl (by omega) (by omega) (by omega) (by omega) rfl ?_
  intro h10I h10E
  generalize h10w : pw_w h9 149 (Int.toNat 3) (pw_i (pw_g h 136 (((12 * (pw_g h 132 (k.toNat))) + mo).toNat))) = h10 at h10I h10E ⊢
  have h10F := h9F.tr (h10E.wk (W' := [149, 150, 151, 152, 153]) (by first | rfl | simp))
  refine pw_ld E (pc' := 88) (st' := [.ref 141]) rfl (fun _ => rfl) ?_
  refine pw_getR (b := 165) h10I E (c := 125) (k := 36) (pc' := 91) rfl rfl rfl rfl rfl rfl rfl ?_
  refine pw_ld E (pc' := 92) (st' := [pw_i 4, .ref 165]) rfl (fun _ => rfl) ?_
  refine pw_ld E (pc' := 94) (st' := [pw_i (pw_g h 136 (((12 * (pw_g h 132 (k.toNat))) + mo).toNat)), pw_i 4, .ref 165]) rfl (fun _ => rfl) ?_
  refine pw_ld E (pc' := 95) (st' := [.ref 141, pw_i (pw_g h 136 (((12 * (pw_g h 132 (k.toNat))) + mo).toNat)), pw_i 4, .ref 165]) rfl (fun _ => rfl) ?_
  refine pw_getR (b := 149) h10I E (c := 125) (k := 12) (pc' := 98) rfl rfl rfl rfl rfl rfl rfl ?_
  refine pw_ld E (pc' := 99) (st' := [pw_i k, .ref 149, pw_i (pw_g h 136 (((12 * (pw_g h 132 (k.toNat))) + mo).toNat)), pw_i 4, .ref 165]) rfl (fun _ => rfl) ?_
  refine pw_ald2 h10I E (c := 133) (pc' := 100) rfl rfl rfl (by decide) rfl (by decide) (by omega) (by omega) rfl (fun hf11a hf11b => ?_)
  refine pw_if2 E (pc' := 115) rfl (by decide) (by omega) (by omega) (by omega) (by omega) ?_ ?_
  · intro hc12
    change pw_g h 136 (((12 * (pw_g h 132 (k.toNat))) + mo).toNat) ≤ pw_g h10 133 (k.toNat) at hc12
    refine pw_ld E (pc' := 116) (st' := [pw_i 0, pw_i 4, .ref 165]) rfl (fun _ => rfl) ?_
    refine pw_ast0 h10I E (c := 149) (pc' := 117) rfl rfl rfl (by decide) rfl (by decide) (by omega) (by omega) rfl (by omega) (by omega) (by omega) (by omega) rfl ?_
    intro h13I h13E
    generalize h13w : pw_w h10 149 (Int.toNat 4) (pw_i 0) = h13 at h13I h13E ⊢
    have h13F := h10F.tr (h13E.wk (W' := [149, 150, 151, 152, 153]) (by first | rfl | simp))
    refine pw_ld E (pc' := 118) (st' := [.ref 141]) rfl (fun _ => rfl) ?_
    refine pw_getR (b := 165) h13I E (c := 125) (k := 36) (pc' := 121) rfl rfl rfl rfl rfl rfl rfl ?_
    refine pw_ld E (pc' := 122) (st' := [pw_i 5, .ref 165]) rfl (fun _ => rfl) ?_
    refine pw_ld E (pc' := 123) (st' := [.ref 141, pw_i 5, .ref 165]) rfl (fun _ => rfl) ?_
    refine pw_getR (b := 148) h13I E (c := 125) (k := 11) (pc' := 126) rfl rfl rfl rfl rfl rfl rfl ?_
    refine pw_ld E (pc' := 127) (st' := [pw_i k, .ref 148, pw_i 5, .ref 165]) rfl (fun _ => rfl) ?_
    refine pw_ald2 h13I E (c := 132) (pc' := 128) rfl rfl rfl (by decide) rfl (by decide) (by omega) (by omega) rfl (fun hf14a hf14b => ?_)
    refine pw_ast0 h13I E (c := 149) (pc' := 129) rfl rfl rfl (by decide) rfl (by decide) (by omega) (by omega) rfl (by omega) (by omega) (by omega) (by omega) rfl ?_
    intro h15I h15E
    generalize h15w : pw_w h13 149 (Int.toNat 5) (pw_i (pw_g h13 132 (k.toNat))) = h15 at h15I h15E ⊢
    have h15F := h13F.tr (h15E.wk (W' := [149, 150, 151, 152, 153]) (by first | rfl | simp))
    refine pw_ld E (pc' := 130) (st' := [.ref 141]) rfl (fun _ => rfl) ?_
    refine pw_getR (b := 165) h15I E (c := 125) (k := 36) (pc' := 133) rfl rfl rfl rfl rfl rfl rfl ?_
    refine pw_bip E (pc' := 135) rfl rfl (by decide) ?_
    refine pw_ld E (pc' := 136) (st' := [pw_i mo, pw_i 6, .ref 165]) rfl (fun _ => rfl) ?_
    refine pw_ast0 h15I E (c := 149) (pc' := 137) rfl rfl rfl (by decide) rfl (by decide) (by omega) (by omega) rfl (by omega) (by omega) (by omega) (by omega) rfl ?_
    intro h16I h16E
    generalize h16w : pw_w h15 149 (Int.toNat 6) (pw_i mo) = h16 at h16I h16E ⊢
    have h16F := h15F.tr (h16E.wk (W' := [149, 150, 151, 152, 153]) (by first | rfl | simp))
    refine pw_ld E (pc' := 138) (st' := [.ref 141]) rfl (fun _ => rfl) ?_
    refine pw_getR (b := 165) h16I E (c := 125) (k := 36) (pc' := 141) rfl rfl rfl rfl rfl rfl rfl ?_
    refine pw_bip E (pc' := 143) rfl rfl (by decide) ?_
    refine pw_ld E (pc' := 144) (st' := [.ref 141, pw_i 7, .ref 165]) rfl (fun _ => rfl) ?_
    refine pw_getR (b := 153) h16I E (c := 125) (k := 17) (pc' := 147) rfl rfl rfl rfl rfl rfl rfl ?_
    refine pw_bip E (pc' := 149) rfl rfl (by decide) ?_
    refine pw_ld E (pc' := 150) (st' := [.ref 141, pw_i 12, .ref 153, pw_i 7, .ref 165]) rfl (fun _ => rfl) ?_
    refine pw_getR (b := 148) h16I E (c := 125) (k := 11) (pc' := 153) rfl rfl rfl rfl rfl rfl rfl ?_
    refine pw_ld E (pc' := 154) (st' := [pw_i k, .ref 148, pw_i 12, .ref 153, pw_i 7, .ref 165]) rfl (fun _ => rfl) ?_
    refine pw_ald2 h16I E (c := 132) (pc' := 155) rfl rfl rfl (by decide) rfl (by decide) (by omega) (by omega) rfl (fun hf17a hf17b => ?_)
    refine pw_mul E (pc' := 156) rfl rfl ?_
    refine pw_ld E (pc' := 157) (st' := [pw_i mo, pw_i (12 * (pw_g h16 132 (k.toNat))), .ref 153, pw_i 7, .ref 165]) rfl (fun _ => rfl) ?_
    refine pw_add E (pc' := 158) rfl rfl ?_
    refine pw_ald2 h16I E (c := 137) (pc' := 159) rfl rfl rfl (by decide) rfl (by decide) (by omega) (by omega) rfl (fun hf18a hf18b => ?_)
    refine pw_ast0 h16I E (c := 149) (pc' := 160) rfl rfl rfl (by decide) rfl (by decide) (by omega) (by omega) rfl (by omega) (by omega) (by omega) (by omega) rfl ?_
    intro h19I h19E
    generalize h19w : pw_w h16 149 (Int.toNat 7) (pw_i (pw_g h16 137 (((12 * (pw_g h16 132 (k.toNat))) + mo).toNat))) = h19 at h19I h19E ⊢
    have h19F := h16F.tr (h19E.wk (W' := [149, 150, 151, 152, 153]) (by first | rfl | simp))
    refine pw_ld E (pc' := 161) (st' := [.ref 141]) rfl (fun _ => rfl) ?_
    refine pw_getR (b := 165) h19I E (c := 125) (k := 36) (pc' := 164) rfl rfl rfl rfl rfl rfl rfl ?_
    refine pw_bip E (pc' := 166) rfl rfl (by decide) ?_
    refine pw_ld E (pc' := 168) (st' := [pw_i dr, pw_i 8, .ref 165]) rfl (fun _ => rfl) ?_
    refine pw_ast0 h19I E (c := 149) (pc' := 169) rfl rfl rfl (by decide) rfl (by decide) (by omega) (by omega) rfl (by omega) (by omega) (by omega) (by omega) rfl ?_
    intro h20I h20E
    generalize h20w : pw_w h19 149 (Int.toNat 8) (pw_i dr) = h20 at h20I h20E ⊢
    have h20F := h19F.tr (h20E.wk (W' := [149, 150, 151, 152, 153]) (by first | rfl | simp))
    refine pw_ld E (pc' := 170) (st' := [.ref 141]) rfl (fun _ => rfl) ?_
    refine pw_getR (b := 165) h20I E (c := 125) (k := 36) (pc' := 173) rfl rfl rfl rfl rfl rfl rfl ?_
    refine pw_bip E (pc' := 175) rfl rfl (by decide) ?_
    refine pw_ld E (pc' := 177) (st' := [pw_i (pw_g h 153 ((((12 * k) + mo) - 1).toNat)), pw_i 9, .ref 165]) rfl (fun _ => rfl) ?_
    refine pw_if E (pc' := 184) rfl (by decide) (by omega) (by omega) ?_ ?_
    · intro hc21
      change pw_g h 153 ((((12 * k) + mo) - 1).toNat) = (0 : Int) at hc21
      refine pw_ld E (pc' := 185) (st' := [pw_i 0, pw_i 9, .ref 165]) rfl (fun _ => rfl) ?_
      refine pw_ast0 h20I E (c := 149) (pc' := 186) rfl rfl rfl (by decide) rfl (by decide) (by omega) (by omega) rfl (by omega) (by omega) (by omega) (by omega) rfl ?_
      intro h22I h22E
      generalize h22w : pw_w h20 149 (Int.toNat 9) (pw_i 0) = h22 at h22I h22E ⊢
      have h22F := h20F.tr (h22E.wk (W' := [149, 150, 151, 152, 153]) (by first | rfl | simp))
      refine pw_ld E (pc' := 188) (st' := [pw_i (pw_g h 153 ((((12 * k) + mo) - 1).toNat))]) rfl (fun _ => rfl) ?_
      refine pw_if E (pc' := 208) rfl (by decide) (by omega) (by omega) ?_ ?_
      · intro hc23
        change pw_g h 153 ((((12 * k) + mo) - 1).toNat) = (0 : Int) at hc23
        refine pw_ld E (pc' := 209) (st' := [.ref 141]) rfl (fun _ => rfl) ?_
        refine pw_ld E (pc' := 210) (st' := [pw_i l, .ref 141]) rfl (fun _ => rfl) ?_
        refine pw_ld E (pc' := 211) (st' := [pw_i 2, pw_i l, .ref 141]) rfl (fun _ => rfl) ?_
        obtain ⟨f24l, f24h, -⟩ := pw_obj (c := 125) h22I rfl
        refine pw_call (m' := 262) (As := [.ref 141, pw_i l, pw_i 2]) (rest := []) (ls'' := [some (.ref 141), some (pw_i l), some (pw_i 2)]) (Nat.le_trans (by decide) hd) E rfl (fun _ => pw_iV rfl rfl rfl rfl (pw_cellI f24h rfl)) (rfl : pm_ent 262 = some (3, 3, 12, 1, pmc_262)) rfl rfl (cm_262 (pw_dp hd (by decide)) h22I (l) (by omega) (by omega) (2) (by omega) (by omega) (pw_KE I h22F hp0 rfl)) ?_
        rintro h25 v26 ⟨h25I, h25E, x27, rfl, hx27a, hx27b⟩
        refine ⟨_, rfl, ?_⟩
        have h25F := h22F.tr (h25E.wk (W' := [149, 150, 151, 152, 153]) (by first | rfl | simp))
        show pw X d h25 261 214 [some (.ref 141), some (pw_i l), some (pw_i k), some (pw_i mo), some (pw_i dr), some (pw_i ((12 * k) + mo)), some (pw_i (pw_g h 136 (((12 * (pw_g h 132 (k.toNat))) + mo).toNat))), some (pw_i (pw_g h 153 ((((12 * k) + mo) - 1).toNat))), none] [pw_i x27] _
        refine pw_ist E (pc' := 216) (ls' := [some (.ref 141), some (pw_i l), some (pw_i k), some (pw_i mo), some (pw_i dr), some (pw_i ((12 * k) + mo)), some (pw_i (pw_g h 136 (((12 * (pw_g h 132 (k.toNat))) + mo).toNat))), some (pw_i (pw_g h 153 ((((12 * k) + mo) - 1).toNat))), some (pw_i x27)]) rfl rfl rfl rfl ?_
        refine pw_ld E (pc' := 217) (st' := [.ref 141]) rfl (fun _ => rfl) ?_
        refine pw_getR (b := 169) h25I E (c := 125) (k := 40) (pc' := 220) rfl rfl rfl rfl rfl rfl rfl ?_
        refine pw_ld E (pc' := 222) (st' := [pw_i ((12 * k) + mo), .ref 169]) rfl (fun _ => rfl) ?_
        refine pw_ld E (pc' := 224) (st' := [pw_i x27, pw_i ((12 * k) + mo), .ref 169]) rfl (fun _ => rfl) ?_
        refine pw_ast0 h25I E (c := 153) (pc' := 225) rfl rfl rfl (by decide) rfl (by decide) (by omega) (by omega) (pw_b1 (by omega) (by omega)) (by omega) (by omega) (by omega) (by omega) rfl ?_
        intro h28I h28E
        generalize h28w : pw_w h25 153 (((12 * k) + mo).toNat) (pw_i x27) = h28 at h28I h28E ⊢
        have h28F := h25F.tr (h28E.wk (W' := [149, 150, 151, 152, 153]) (by first | rfl | simp))
        refine pw_ld E (pc' := 226) (st' := [.ref 141]) rfl (fun _ => rfl) ?_
        refine pw_getR (b := 167) h28I E (c := 125) (k := 38) (pc' := 229) rfl rfl rfl rfl rfl rfl rfl ?_
        refine pw_ld E (pc' := 231) (st' := [pw_i ((12 * k) + mo), .ref 167]) rfl (fun _ => rfl) ?_
        refine pw_ld E (pc' := 233) (st' := [pw_i x27, pw_i ((12 * k) + mo), .ref 167]) rfl (fun _ => rfl) ?_
        refine pw_if E (pc' := 240) rfl (by decide) (by omega) (by omega) ?_ ?_
        · intro hc29
          change x27 = (0 : Int) at hc29
          refine pw_ld E (pc' := 241) (st' := [.ref 141, pw_i ((12 * k) + mo), .ref 167]) rfl (fun _ => rfl) ?_
          refine pw_ld E (pc' := 242) (st' := [pw_i l, .ref 141, pw_i ((12 * k) + mo), .ref 167]) rfl (fun _ => rfl) ?_
          refine pw_ld E (pc' := 243) (st' := [pw_i 0, pw_i l, .ref 141, pw_i ((12 * k) + mo), .ref 167]) rfl (fun _ => rfl) ?_
          refine pw_ld E (pc' := 244) (st' := [.ref 141, pw_i 0, pw_i l, .ref 141, pw_i ((12 * k) + mo), .ref 167]) rfl (fun _ => rfl) ?_
          refine pw_getR (b := 165) h28I E (c := 125) (k := 36) (pc' := 247) rfl rfl rfl rfl rfl rfl rfl ?_
          refine pw_ld E (pc' := 248) (st' := [pw_i 0, .ref 165, pw_i 0, pw_i l, .ref 141, pw_i ((12 * k) + mo), .ref 167]) rfl (fun _ => rfl) ?_
          have he31 : pw_g h28 149 (Int.toNat 0) = pw_g h25 149 (Int.toNat 0) := by rw [← h28w]; exact pw_g_ne (by omega)
          have he32 : pw_g h25 149 (Int.toNat 0) = pw_g h22 149 (Int.toNat 0) := pw_Eg (c := 149) h22I h25E rfl rfl _
          have he33 : pw_g h22 149 (Int.toNat 0) = pw_g h20 149 (Int.toNat 0) := by rw [← h22w]; exact pw_g_ne (by omega)
          have he34 : pw_g h20 149 (Int.toNat 0) = pw_g h19 149 (Int.toNat 0) := by rw [← h20w]; exact pw_g_ne (by omega)
          have he35 : pw_g h19 149 (Int.toNat 0) = pw_g h16 149 (Int.toNat 0) := by rw [← h19w]; exact pw_g_ne (by omega)
          have he36 : pw_g h16 149 (Int.toNat 0) = pw_g h15 149 (Int.toNat 0) := by rw [← h16w]; exact pw_g_ne (by omega)
          have he37 : pw_g h15 149 (Int.toNat 0) = pw_g h13 149 (Int.toNat 0) := by rw [← h15w]; exact pw_g_ne (by omega)
          have he38 : pw_g h13 149 (Int.toNat 0) = pw_g h10 149 (Int.toNat 0) := by rw [← h13w]; exact pw_g_ne (by omega)
          have he39 : pw_g h10 149 (Int.toNat 0) = pw_g h9 149 (Int.toNat 0) := by rw [← h10w]; exact pw_g_ne (by omega)
          have he40 : pw_g h9 149 (Int.toNat 0) = pw_g h7 149 (Int.toNat 0) := by rw [← h9w]; exact pw_g_ne (by omega)
          have he41 : pw_g h7 149 (Int.toNat 0) = pw_g h5 149 (Int.toNat 0) := by rw [← h7w]; exact pw_g_ne (by omega)
          have he42 : pw_g h5 149 (Int.toNat 0) = pw_g h 151 ((((12 * k) + mo) - 1).toNat) := by rw [← h5w]; exact pw_g_eqA (c := 149) I rfl (by decide) (by omega) (by omega)
          refine pw_ald2 h28I E (c := 149) (pc' := 249) rfl rfl rfl (by decide) rfl (by decide) (by omega) (by omega) rfl (fun hf30a hf30b => ?_)
          obtain ⟨f43l, f43h, -⟩ := pw_obj (c := 125) h28I rfl
          refine pw_call (m' := 266) (As := [.ref 141, pw_i l, pw_i 0, pw_i (pw_g h28 149 (Int.toNat 0))]) (rest := [pw_i ((12 * k) + mo), .ref 167]) (ls'' := [some (.ref 141), some (pw_i l), some (pw_i 0), some (pw_i (pw_g h28 149 (Int.toNat 0))), none]) (Nat.le_trans (by decide) hd) E rfl (fun _ => pw_iV rfl rfl rfl rfl (pw_cellI f43h rfl)) (rfl : pm_ent 266 = some (4, 5, 12, 0, pmc_266)) rfl rfl (cm_266 (pw_dp hd (by decide)) h28I (l) (by omega) (by omega) (0) (by omega) (by omega) (pw_g h28 149 (Int.toNat 0)) (by omega) (by omega) (pw_KE I h28F hp0 rfl)) ?_
          rintro h44 v45 ⟨h44I, h44E, x46, rfl, hx46a, hx46b⟩
          refine ⟨_, rfl, ?_⟩
          have h44F := h28F.tr (h44E.wk (W' := [149, 150, 151, 152, 153]) (by first | rfl | simp))
          show pw X d h44 261 252 [some (.ref 141), some (pw_i l), some (pw_i k), some (pw_i mo), some (pw_i dr), some (pw_i ((12 * k) + mo)), some (pw_i (pw_g h 136 (((12 * (pw_g h 132 (k.toNat))) + mo).toNat))), some (pw_i (pw_g h 153 ((((12 * k) + mo) - 1).toNat))), some (pw_i x27)] [pw_i x46, pw_i ((12 * k) + mo), .ref 167] _
          refine pw_ast0 h44I E (c := 151) (pc' := 253) rfl rfl rfl (by decide) rfl (by decide) (by omega) (by omega) rfl (by omega) (by omega) (by omega) (by omega) rfl ?_
          intro h47I h47E
          generalize h47w : pw_w h44 151 (((12 * k) + mo).toNat) (pw_i x46) = h47 at h47I h47E ⊢
          have h47F := h44F.tr (h47E.wk (W' := [149, 150, 151, 152, 153]) (by first | rfl | simp))
          refine pw_ld E (pc' := 254) (st' := [.ref 141]) rfl (fun _ => rfl) ?_
          refine pw_getR (b := 168) h47I E (c := 125) (k := 39) (pc' := 257) rfl rfl rfl rfl rfl rfl rfl ?_
          refine pw_ld E (pc' := 259) (st' := [pw_i ((12 * k) + mo), .ref 168]) rfl (fun _ => rfl) ?_
          refine pw_ld E (pc' := 261) (st' := [pw_i x27, pw_i ((12 * k) + mo), .ref 168]) rfl (fun _ => rfl) ?_
          refine pw_if E (pc' := 268) rfl (by decide) (by omega) (by omega) ?_ ?_
          · intro hc48
            change x27 = (0 : Int) at hc48
            refine pw_ld E (pc' := 269) (st' := [.ref 141, pw_i ((12 * k) + mo), .ref 168]) rfl (fun _ => rfl) ?_
            refine pw_ld E (pc' := 270) (st' := [pw_i l, .ref 141, pw_i ((12 * k) + mo), .ref 168]) rfl (fun _ => rfl) ?_
            refine pw_ld E (pc' := 271) (st' := [pw_i 1, pw_i l, .ref 141, pw_i ((12 * k) + mo), .ref 168]) rfl (fun _ => rfl) ?_
            refine pw_ld E (pc' := 272) (st' := [.ref 141, pw_i 1, pw_i l, .ref 141, pw_i ((12 * k) + mo), .ref 168]) rfl (fun _ => rfl) ?_
            refine pw_getR (b := 165) h47I E (c := 125) (k := 36) (pc' := 275) rfl rfl rfl rfl rfl rfl rfl ?_
            refine pw_ld E (pc' := 276) (st' := [pw_i 1, .ref 165, pw_i 1, pw_i l, .ref 141, pw_i ((12 * k) + mo), .ref 168]) rfl (fun _ => rfl) ?_
            have he50 : pw_g h47 149 (Int.toNat 1) = pw_g h44 149 (Int.toNat 1) := by rw [← h47w]; exact pw_g_ne (by omega)
            have he51 : pw_g h44 149 (Int.toNat 1) = pw_g h28 149 (Int.toNat 1) := pw_Eg (c := 149) h28I h44E rfl rfl _
            have he52 : pw_g h28 149 (Int.toNat 1) = pw_g h25 149 (Int.toNat 1) := by rw [← h28w]; exact pw_g_ne (by omega)
            have he53 : pw_g h25 149 (Int.toNat 1) = pw_g h22 149 (Int.toNat 1) := pw_Eg (c := 149) h22I h25E rfl rfl _
            have he54 : pw_g h22 149 (Int.toNat 1) = pw_g h20 149 (Int.toNat 1) := by rw [← h22w]; exact pw_g_ne (by omega)
            have he55 : pw_g h20 149 (Int.toNat 1) = pw_g h19 149 (Int.toNat 1) := by rw [← h20w]; exact pw_g_ne (by omega)
            have he56 : pw_g h19 149 (Int.toNat 1) = pw_g h16 149 (Int.toNat 1) := by rw [← h19w]; exact pw_g_ne (by omega)
            have he57 : pw_g h16 149 (Int.toNat 1) = pw_g h15 149 (Int.toNat 1) := by rw [← h16w]; exact pw_g_ne (by omega)
            have he58 : pw_g h15 149 (Int.toNat 1) = pw_g h13 149 (Int.toNat 1) := by rw [← h15w]; exact pw_g_ne (by omega)
            have he59 : pw_g h13 149 (Int.toNat 1) = pw_g h10 149 (Int.toNat 1) := by rw [← h13w]; exact pw_g_ne (by omega)
            have he60 : pw_g h10 149 (Int.toNat 1) = pw_g h9 149 (Int.toNat 1) := by rw [← h10w]; exact pw_g_ne (by omega)
            have he61 : pw_g h9 149 (Int.toNat 1) = pw_g h7 149 (Int.toNat 1) := by rw [← h9w]; exact pw_g_ne (by omega)
            have he62 : pw_g h7 149 (Int.toNat 1) = pw_g h5 152 ((((12 * k) + mo) - 1).toNat) := by rw [← h7w]; exact pw_g_eqA (c := 149) h5I rfl (by decide) (by omega) (by omega)
            refine pw_ald2 h47I E (c := 149) (pc' := 277) rfl rfl rfl (by decide) rfl (by decide) (by omega) (by omega) rfl (fun hf49a hf49b => ?_)
            obtain ⟨f63l, f63h, -⟩ := pw_obj (c := 125) h47I rfl
            refine pw_call (m' := 266) (As := [.ref 141, pw_i l, pw_i 1, pw_i (pw_g h47 149 (Int.toNat 1))]) (rest := [pw_i ((12 * k) + mo), .ref 168]) (ls'' := [some (.ref 141), some (pw_i l), some (pw_i 1), some (pw_i (pw_g h47 149 (Int.toNat 1))), none]) (Nat.le_trans (by decide) hd) E rfl (fun _ => pw_iV rfl rfl rfl rfl (pw_cellI f63h rfl)) (rfl : pm_ent 266 = some (4, 5, 12, 0, pmc_266)) rfl rfl (cm_266 (pw_dp hd (by decide)) h47I (l) (by omega) (by omega) (1) (by omega) (by omega) (pw_g h47 149 (Int.toNat 1)) (by omega) (by omega) (pw_KE I h47F hp0 rfl)) ?_
            rintro h64 v65 ⟨h64I, h64E, x66, rfl, hx66a, hx66b⟩
            refine ⟨_, rfl, ?_⟩
            have h64F := h47F.tr (h64E.wk (W' := [149, 150, 151, 152, 153]) (by first | rfl | simp))
            show pw X d h64 261 280 [some (.ref 141), some (pw_i l), some (pw_i k), some (pw_i mo), some (pw_i dr), some (pw_i ((12 * k) + mo)), some (pw_i (pw_g h 136 (((12 * (pw_g h 132 (k.toNat))) + mo).toNat))), some (pw_i (pw_g h 153 ((((12 * k) + mo) - 1).toNat))), some (pw_i x27)] [pw_i x66, pw_i ((12 * k) + mo), .ref 168] _
            refine pw_ast0 h64I E (c := 152) (pc' := 281) rfl rfl rfl (by decide) rfl (by decide) (by omega) (by omega) rfl (by omega) (by omega) (by omega) (by omega) rfl ?_
            intro h67I h67E
            generalize h67w : pw_w h64 152 (((12 * k) + mo).toNat) (pw_i x66) = h67 at h67I h67E ⊢
            have h67F := h64F.tr (h67E.wk (W' := [149, 150, 151, 152, 153]) (by first | rfl | simp))
            refine pw_vret E rfl ?_
            exact ⟨h67I, h67F, rfl⟩
          · intro hc68
            change ¬ (x27 = (0 : Int)) at hc68
            exfalso; omega
        · intro hc69
          change ¬ (x27 = (0 : Int)) at hc69
          refine pw_ld E (pc' := 237) (st' := [pw_i 0, pw_i ((12 * k) + mo), .ref 167]) rfl (fun _ => rfl) ?_
          refine pw_goto E (pc' := 252) rfl (by decide) ?_
          refine pw_ast0 h28I E (c := 151) (pc' := 253) rfl rfl rfl (by decide) rfl (by decide) (by omega) (by omega) rfl (by omega) (by omega) (by omega) (by omega) rfl ?_
          intro h70I h70E
          generalize h70w : pw_w h28 151 (((12 * k) + mo).toNat) (pw_i 0) = h70 at h70I h70E ⊢
          have h70F := h28F.tr (h70E.wk (W' := [149, 150, 151, 152, 153]) (by first | rfl | simp))
          refine pw_ld E (pc' := 254) (st' := [.ref 141]) rfl (fun _ => rfl) ?_
          refine pw_getR (b := 168) h70I E (c := 125) (k := 39) (pc' := 257) rfl rfl rfl rfl rfl rfl rfl ?_
          refine pw_ld E (pc' := 259) (st' := [pw_i ((12 * k) + mo), .ref 168]) rfl (fun _ => rfl) ?_
          refine pw_ld E (pc' := 261) (st' := [pw_i x27, pw_i ((12 * k) + mo), .ref 168]) rfl (fun _ => rfl) ?_
          refine pw_if E (pc' := 268) rfl (by decide) (by omega) (by omega) ?_ ?_
          · intro hc71
            change x27 = (0 : Int) at hc71
            exfalso; omega
          · intro hc72
            change ¬ (x27 = (0 : Int)) at hc72
            refine pw_ld E (pc' := 265) (st' := [pw_i 0, pw_i ((12 * k) + mo), .ref 168]) rfl (fun _ => rfl) ?_
            refine pw_goto E (pc' := 280) rfl (by decide) ?_
            refine pw_ast0 h70I E (c := 152) (pc' := 281) rfl rfl rfl (by decide) rfl (by decide) (by omega) (by omega) rfl (by omega) (by omega) (by omega) (by omega) rfl ?_
            intro h73I h73E
            generalize h73w : pw_w h70 152 (((12 * k) + mo).toNat) (pw_i 0) = h73 at h73I h73E ⊢
            have h73F := h70F.tr (h73E.wk (W' := [149, 150, 151, 152, 153]) (by first | rfl | simp))
            refine pw_vret E rfl ?_
            exact ⟨h73I, h73F, rfl⟩
      · intro hc74
        change ¬ (pw_g h 153 ((((12 * k) + mo) - 1).toNat) = (0 : Int)) at hc74
        exfalso; omega
    · intro hc75
      change ¬ (pw_g h 153 ((((12 * k) + mo) - 1).toNat) = (0 : Int)) at hc75
      refine pw_ld E (pc' := 181) (st' := [pw_i 1, pw_i 9, .ref 165]) rfl (fun _ => rfl) ?_
      refine pw_goto E (pc' := 185) rfl (by decide) ?_
      refine pw_ast0 h20I E (c := 149) (pc' := 186) rfl rfl rfl (by decide) rfl (by decide) (by omega) (by omega) rfl (by omega) (by omega) (by omega) (by omega) rfl ?_
      intro h76I h76E
      generalize h76w : pw_w h20 149 (Int.toNat 9) (pw_i 1) = h76 at h76I h76E ⊢
      have h76F := h20F.tr (h76E.wk (W' := [149, 150, 151, 152, 153]) (by first | rfl | simp))
      refine pw_ld E (pc' := 188) (st' := [pw_i (pw_g h 153 ((((12 * k) + mo) - 1).toNat))]) rfl (fun _ => rfl) ?_
      refine pw_if E (pc' := 208) rfl (by decide) (by omega) (by omega) ?_ ?_
      · intro hc77
        change pw_g h 153 ((((12 * k) + mo) - 1).toNat) = (0 : Int) at hc77
        exfalso; omega
      · intro hc78
        change ¬ (pw_g h 153 ((((12 * k) + mo) - 1).toNat) = (0 : Int)) at hc78
        refine pw_ld E (pc' := 192) (st' := [.ref 141]) rfl (fun _ => rfl) ?_
        refine pw_ld E (pc' := 193) (st' := [pw_i l, .ref 141]) rfl (fun _ => rfl) ?_
        refine pw_ld E (pc' := 194) (st' := [pw_i 3, pw_i l, .ref 141]) rfl (fun _ => rfl) ?_
        obtain ⟨f79l, f79h, -⟩ := pw_obj (c := 125) h76I rfl
        refine pw_call (m' := 262) (As := [.ref 141, pw_i l, pw_i 3]) (rest := []) (ls'' := [some (.ref 141), some (pw_i l), some (pw_i 3)]) (Nat.le_trans (by decide) hd) E rfl (fun _ => pw_iV rfl rfl rfl rfl (pw_cellI f79h rfl)) (rfl : pm_ent 262 = some (3, 3, 12, 1, pmc_262)) rfl rfl (cm_262 (pw_dp hd (by decide)) h76I (l) (by omega) (by omega) (3) (by omega) (by omega) (pw_KE I h76F hp0 rfl)) ?_
        rintro h80 v81 ⟨h80I, h80E, x82, rfl, hx82a, hx82b⟩
        refine ⟨_, rfl, ?_⟩
        have h80F := h76F.tr (h80E.wk (W' := [149, 150, 151, 152, 153]) (by first | rfl | simp))
        show pw X d h80 261 197 [some (.ref 141), some (pw_i l), some (pw_i k), some (pw_i mo), some (pw_i dr), some (pw_i ((12 * k) + mo)), some (pw_i (pw_g h 136 (((12 * (pw_g h 132 (k.toNat))) + mo).toNat))), some (pw_i (pw_g h 153 ((((12 * k) + mo) - 1).toNat))), none] [pw_i x82] _
        refine pw_if E (pc' := 204) rfl (by decide) (by omega) (by omega) ?_ ?_
        · intro hc83
          change x82 ≠ (0 : Int) at hc83
          refine pw_ld E (pc' := 205) (st' := [pw_i 0]) rfl (fun _ => rfl) ?_
          refine pw_goto E (pc' := 214) rfl (by decide) ?_
          refine pw_ist E (pc' := 216) (ls' := [some (.ref 141), some (pw_i l), some (pw_i k), some (pw_i mo), some (pw_i dr), some (pw_i ((12 * k) + mo)), some (pw_i (pw_g h 136 (((12 * (pw_g h 132 (k.toNat))) + mo).toNat))), some (pw_i (pw_g h 153 ((((12 * k) + mo) - 1).toNat))), some (pw_i 0)]) rfl rfl rfl rfl ?_
          refine pw_ld E (pc' := 217) (st' := [.ref 141]) rfl (fun _ => rfl) ?_
          refine pw_getR (b := 169) h80I E (c := 125) (k := 40) (pc' := 220) rfl rfl rfl rfl rfl rfl rfl ?_
          refine pw_ld E (pc' := 222) (st' := [pw_i ((12 * k) + mo), .ref 169]) rfl (fun _ => rfl) ?_
          refine pw_ld E (pc' := 224) (st' := [pw_i 0, pw_i ((12 * k) + mo), .ref 169]) rfl (fun _ => rfl) ?_
          refine pw_ast0 h80I E (c := 153) (pc' := 225) rfl rfl rfl (by decide) rfl (by decide) (by omega) (by omega) (pw_b1 (by omega) (by omega)) (by omega) (by omega) (by omega) (by omega) rfl ?_
          intro h84I h84E
          generalize h84w : pw_w h80 153 (((12 * k) + mo).toNat) (pw_i 0) = h84 at h84I h84E ⊢
          have h84F := h80F.tr (h84E.wk (W' := [149, 150, 151, 152, 153]) (by first | rfl | simp))
          refine pw_ld E (pc' := 226) (st' := [.ref 141]) rfl (fun _ => rfl) ?_
          refine pw_getR (b := 167) h84I E (c := 125) (k := 38) (pc' := 229) rfl rfl rfl rfl rfl rfl rfl ?_
          refine pw_ld E (pc' := 231) (st' := [pw_i ((12 * k) + mo), .ref 167]) rfl (fun _ => rfl) ?_
          refine pw_ld E (pc' := 233) (st' := [pw_i 0, pw_i ((12 * k) + mo), .ref 167]) rfl (fun _ => rfl) ?_
          refine pw_if E (pc' := 240) rfl (by decide) (by decide) (by decide) ?_ ?_
          · intro hc85
            change (0 : Int) = (0 : Int) at hc85
            refine pw_ld E (pc' := 241) (st' := [.ref 141, pw_i ((12 * k) + mo), .ref 167]) rfl (fun _ => rfl) ?_
            refine pw_ld E (pc' := 242) (st' := [pw_i l, .ref 141, pw_i ((12 * k) + mo), .ref 167]) rfl (fun _ => rfl) ?_
            refine pw_ld E (pc' := 243) (st' := [pw_i 0, pw_i l, .ref 141, pw_i ((12 * k) + mo), .ref 167]) rfl (fun _ => rfl) ?_
            refine pw_ld E (pc' := 244) (st' := [.ref 141, pw_i 0, pw_i l, .ref 141, pw_i ((12 * k) + mo), .ref 167]) rfl (fun _ => rfl) ?_
            refine pw_getR (b := 165) h84I E (c := 125) (k := 36) (pc' := 247) rfl rfl rfl rfl rfl rfl rfl ?_
            refine pw_ld E (pc' := 248) (st' := [pw_i 0, .ref 165, pw_i 0, pw_i l, .ref 141, pw_i ((12 * k) + mo), .ref 167]) rfl (fun _ => rfl) ?_
            have he87 : pw_g h84 149 (Int.toNat 0) = pw_g h80 149 (Int.toNat 0) := by rw [← h84w]; exact pw_g_ne (by omega)
            have he88 : pw_g h80 149 (Int.toNat 0) = pw_g h76 149 (Int.toNat 0) := pw_Eg (c := 149) h76I h80E rfl rfl _
            have he89 : pw_g h76 149 (Int.toNat 0) = pw_g h20 149 (Int.toNat 0) := by rw [← h76w]; exact pw_g_ne (by omega)
            have he90 : pw_g h20 149 (Int.toNat 0) = pw_g h19 149 (Int.toNat 0) := by rw [← h20w]; exact pw_g_ne (by omega)
            have he91 : pw_g h19 149 (Int.toNat 0) = pw_g h16 149 (Int.toNat 0) := by rw [← h19w]; exact pw_g_ne (by omega)
            have he92 : pw_g h16 149 (Int.toNat 0) = pw_g h15 149 (Int.toNat 0) := by rw [← h16w]; exact pw_g_ne (by omega)
            have he93 : pw_g h15 149 (Int.toNat 0) = pw_g h13 149 (Int.toNat 0) := by rw [← h15w]; exact pw_g_ne (by omega)
            have he94 : pw_g h13 149 (Int.toNat 0) = pw_g h10 149 (Int.toNat 0) := by rw [← h13w]; exact pw_g_ne (by omega)
            have he95 : pw_g h10 149 (Int.toNat 0) = pw_g h9 149 (Int.toNat 0) := by rw [← h10w]; exact pw_g_ne (by omega)
            have he96 : pw_g h9 149 (Int.toNat 0) = pw_g h7 149 (Int.toNat 0) := by rw [← h9w]; exact pw_g_ne (by omega)
            have he97 : pw_g h7 149 (Int.toNat 0) = pw_g h5 149 (Int.toNat 0) := by rw [← h7w]; exact pw_g_ne (by omega)
            have he98 : pw_g h5 149 (Int.toNat 0) = pw_g h 151 ((((12 * k) + mo) - 1).toNat) := by rw [← h5w]; exact pw_g_eqA (c := 149) I rfl (by decide) (by omega) (by omega)
            refine pw_ald2 h84I E (c := 149) (pc' := 249) rfl rfl rfl (by decide) rfl (by decide) (by omega) (by omega) rfl (fun hf86a hf86b => ?_)
            obtain ⟨f99l, f99h, -⟩ := pw_obj (c := 125) h84I rfl
            refine pw_call (m' := 266) (As := [.ref 141, pw_i l, pw_i 0, pw_i (pw_g h84 149 (Int.toNat 0))]) (rest := [pw_i ((12 * k) + mo), .ref 167]) (ls'' := [some (.ref 141), some (pw_i l), some (pw_i 0), some (pw_i (pw_g h84 149 (Int.toNat 0))), none]) (Nat.le_trans (by decide) hd) E rfl (fun _ => pw_iV rfl rfl rfl rfl (pw_cellI f99h rfl)) (rfl : pm_ent 266 = some (4, 5, 12, 0, pmc_266)) rfl rfl (cm_266 (pw_dp hd (by decide)) h84I (l) (by omega) (by omega) (0) (by omega) (by omega) (pw_g h84 149 (Int.toNat 0)) (by omega) (by omega) (pw_KE I h84F hp0 rfl)) ?_
            rintro h100 v101 ⟨h100I, h100E, x102, rfl, hx102a, hx102b⟩
            refine ⟨_, rfl, ?_⟩
            have h100F := h84F.tr (h100E.wk (W' := [149, 150, 151, 152, 153]) (by first | rfl | simp))
            show pw X d h100 261 252 [some (.ref 141), some (pw_i l), some (pw_i k), some (pw_i mo), some (pw_i dr), some (pw_i ((12 * k) + mo)), some (pw_i (pw_g h 136 (((12 * (pw_g h 132 (k.toNat))) + mo).toNat))), some (pw_i (pw_g h 153 ((((12 * k) + mo) - 1).toNat))), some (pw_i 0)] [pw_i x102, pw_i ((12 * k) + mo), .ref 167] _
            refine pw_ast0 h100I E (c := 151) (pc' := 253) rfl rfl rfl (by decide) rfl (by decide) (by omega) (by omega) rfl (by omega) (by omega) (by omega) (by omega) rfl ?_
            intro h103I h103E
            generalize h103w : pw_w h100 151 (((12 * k) + mo).toNat) (pw_i x102) = h103 at h103I h103E ⊢
            have h103F := h100F.tr (h103E.wk (W' := [149, 150, 151, 152, 153]) (by first | rfl | simp))
            refine pw_ld E (pc' := 254) (st' := [.ref 141]) rfl (fun _ => rfl) ?_
            refine pw_getR (b := 168) h103I E (c := 125) (k := 39) (pc' := 257) rfl rfl rfl rfl rfl rfl rfl ?_
            refine pw_ld E (pc' := 259) (st' := [pw_i ((12 * k) + mo), .ref 168]) rfl (fun _ => rfl) ?_
            refine pw_ld E (pc' := 261) (st' := [pw_i 0, pw_i ((12 * k) + mo), .ref 168]) rfl (fun _ => rfl) ?_
            refine pw_if E (pc' := 268) rfl (by decide) (by decide) (by decide) ?_ ?_
            · intro hc104
              change (0 : Int) = (0 : Int) at hc104
              refine pw_ld E (pc' := 269) (st' := [.ref 141, pw_i ((12 * k) + mo), .ref 168]) rfl (fun _ => rfl) ?_
              refine pw_ld E (pc' := 270) (st' := [pw_i l, .ref 141, pw_i ((12 * k) + mo), .ref 168]) rfl (fun _ => rfl) ?_
              refine pw_ld E (pc' := 271) (st' := [pw_i 1, pw_i l, .ref 141, pw_i ((12 * k) + mo), .ref 168]) rfl (fun _ => rfl) ?_
              refine pw_ld E (pc' := 272) (st' := [.ref 141, pw_i 1, pw_i l, .ref 141, pw_i ((12 * k) + mo), .ref 168]) rfl (fun _ => rfl) ?_
              refine pw_getR (b := 165) h103I E (c := 125) (k := 36) (pc' := 275) rfl rfl rfl rfl rfl rfl rfl ?_
              refine pw_ld E (pc' := 276) (st' := [pw_i 1, .ref 165, pw_i 1, pw_i l, .ref 141, pw_i ((12 * k) + mo), .ref 168]) rfl (fun _ => rfl) ?_
              have he106 : pw_g h103 149 (Int.toNat 1) = pw_g h100 149 (Int.toNat 1) := by rw [← h103w]; exact pw_g_ne (by omega)
              have he107 : pw_g h100 149 (Int.toNat 1) = pw_g h84 149 (Int.toNat 1) := pw_Eg (c := 149) h84I h100E rfl rfl _
              have he108 : pw_g h84 149 (Int.toNat 1) = pw_g h80 149 (Int.toNat 1) := by rw [← h84w]; exact pw_g_ne (by omega)
              have he109 : pw_g h80 149 (Int.toNat 1) = pw_g h76 149 (Int.toNat 1) := pw_Eg (c := 149) h76I h80E rfl rfl _
              have he110 : pw_g h76 149 (Int.toNat 1) = pw_g h20 149 (Int.toNat 1) := by rw [← h76w]; exact pw_g_ne (by omega)
              have he111 : pw_g h20 149 (Int.toNat 1) = pw_g h19 149 (Int.toNat 1) := by rw [← h20w]; exact pw_g_ne (by omega)
              have he112 : pw_g h19 149 (Int.toNat 1) = pw_g h16 149 (Int.toNat 1) := by rw [← h19w]; exact pw_g_ne (by omega)
              have he113 : pw_g h16 149 (Int.toNat 1) = pw_g h15 149 (Int.toNat 1) := by rw [← h16w]; exact pw_g_ne (by omega)
              have he114 : pw_g h15 149 (Int.toNat 1) = pw_g h13 149 (Int.toNat 1) := by rw [← h15w]; exact pw_g_ne (by omega)
              have he115 : pw_g h13 149 (Int.toNat 1) = pw_g h10 149 (Int.toNat 1) := by rw [← h13w]; exact pw_g_ne (by omega)
              have he116 : pw_g h10 149 (Int.toNat 1) = pw_g h9 149 (Int.toNat 1) := by rw [← h10w]; exact pw_g_ne (by omega)
              have he117 : pw_g h9 149 (Int.toNat 1) = pw_g h7 149 (Int.toNat 1) := by rw [← h9w]; exact pw_g_ne (by omega)
              have he118 : pw_g h7 149 (Int.toNat 1) = pw_g h5 152 ((((12 * k) + mo) - 1).toNat) := by rw [← h7w]; exact pw_g_eqA (c := 149) h5I rfl (by decide) (by omega) (by omega)
              refine pw_ald2 h103I E (c := 149) (pc' := 277) rfl rfl rfl (by decide) rfl (by decide) (by omega) (by omega) rfl (fun hf105a hf105b => ?_)
              obtain ⟨f119l, f119h, -⟩ := pw_obj (c := 125) h103I rfl
              refine pw_call (m' := 266) (As := [.ref 141, pw_i l, pw_i 1, pw_i (pw_g h103 149 (Int.toNat 1))]) (rest := [pw_i ((12 * k) + mo), .ref 168]) (ls'' := [some (.ref 141), some (pw_i l), some (pw_i 1), some (pw_i (pw_g h103 149 (Int.toNat 1))), none]) (Nat.le_trans (by decide) hd) E rfl (fun _ => pw_iV rfl rfl rfl rfl (pw_cellI f119h rfl)) (rfl : pm_ent 266 = some (4, 5, 12, 0, pmc_266)) rfl rfl (cm_266 (pw_dp hd (by decide)) h103I (l) (by omega) (by omega) (1) (by omega) (by omega) (pw_g h103 149 (Int.toNat 1)) (by omega) (by omega) (pw_KE I h103F hp0 rfl)) ?_
              rintro h120 v121 ⟨h120I, h120E, x122, rfl, hx122a, hx122b⟩
              refine ⟨_, rfl, ?_⟩
              have h120F := h103F.tr (h120E.wk (W' := [149, 150, 151, 152, 153]) (by first | rfl | simp))
              show pw X d h120 261 280 [some (.ref 141), some (pw_i l), some (pw_i k), some (pw_i mo), some (pw_i dr), some (pw_i ((12 * k) + mo)), some (pw_i (pw_g h 136 (((12 * (pw_g h 132 (k.toNat))) + mo).toNat))), some (pw_i (pw_g h 153 ((((12 * k) + mo) - 1).toNat))), some (pw_i 0)] [pw_i x122, pw_i ((12 * k) + mo), .ref 168] _
              refine pw_ast0 h120I E (c := 152) (pc' := 281) rfl rfl rfl (by decide) rfl (by decide) (by omega) (by omega) rfl (by omega) (by omega) (by omega) (by omega) rfl ?_
              intro h123I h123E
              generalize h123w : pw_w h120 152 (((12 * k) + mo).toNat) (pw_i x122) = h123 at h123I h123E ⊢
              have h123F := h120F.tr (h123E.wk (W' := [149, 150, 151, 152, 153]) (by first | rfl | simp))
              refine pw_vret E rfl ?_
              exact ⟨h123I, h123F, rfl⟩
            · intro hc124
              change ¬ ((0 : Int) = (0 : Int)) at hc124
              exfalso; omega
          · intro hc125
            change ¬ ((0 : Int) = (0 : Int)) at hc125
            exfalso; omega
        · intro hc126
          change ¬ (x82 ≠ (0 : Int)) at hc126
          refine pw_ld E (pc' := 201) (st' := [pw_i 1]) rfl (fun _ => rfl) ?_
          refine pw_goto E (pc' := 214) rfl (by decide) ?_
          refine pw_ist E (pc' := 216) (ls' := [some (.ref 141), some (pw_i l), some (pw_i k), some (pw_i mo), some (pw_i dr), some (pw_i ((12 * k) + mo)), some (pw_i (pw_g h 136 (((12 * (pw_g h 132 (k.toNat))) + mo).toNat))), some (pw_i (pw_g h 153 ((((12 * k) + mo) - 1).toNat))), some (pw_i 1)]) rfl rfl rfl rfl ?_
          refine pw_ld E (pc' := 217) (st' := [.ref 141]) rfl (fun _ => rfl) ?_
          refine pw_getR (b := 169) h80I E (c := 125) (k := 40) (pc' := 220) rfl rfl rfl rfl rfl rfl rfl ?_
          refine pw_ld E (pc' := 222) (st' := [pw_i ((12 * k) + mo), .ref 169]) rfl (fun _ => rfl) ?_
          refine pw_ld E (pc' := 224) (st' := [pw_i 1, pw_i ((12 * k) + mo), .ref 169]) rfl (fun _ => rfl) ?_
          refine pw_ast0 h80I E (c := 153) (pc' := 225) rfl rfl rfl (by decide) rfl (by decide) (by omega) (by omega) (pw_b1 (by omega) (by omega)) (by omega) (by omega) (by omega) (by omega) rfl ?_
          intro h127I h127E
          generalize h127w : pw_w h80 153 (((12 * k) + mo).toNat) (pw_i 1) = h127 at h127I h127E ⊢
          have h127F := h80F.tr (h127E.wk (W' := [149, 150, 151, 152, 153]) (by first | rfl | simp))
          refine pw_ld E (pc' := 226) (st' := [.ref 141]) rfl (fun _ => rfl) ?_
          refine pw_getR (b := 167) h127I E (c := 125) (k := 38) (pc' := 229) rfl rfl rfl rfl rfl rfl rfl ?_
          refine pw_ld E (pc' := 231) (st' := [pw_i ((12 * k) + mo), .ref 167]) rfl (fun _ => rfl) ?_
          refine pw_ld E (pc' := 233) (st' := [pw_i 1, pw_i ((12 * k) + mo), .ref 167]) rfl (fun _ => rfl) ?_
          refine pw_if E (pc' := 240) rfl (by decide) (by decide) (by decide) ?_ ?_
          · intro hc128
            change (1 : Int) = (0 : Int) at hc128
            exfalso; omega
          · intro hc129
            change ¬ ((1 : Int) = (0 : Int)) at hc129
            refine pw_ld E (pc' := 237) (st' := [pw_i 0, pw_i ((12 * k) + mo), .ref 167]) rfl (fun _ => rfl) ?_
            refine pw_goto E (pc' := 252) rfl (by decide) ?_
            refine pw_ast0 h127I E (c := 151) (pc' := 253) rfl rfl rfl (by decide) rfl (by decide) (by omega) (by omega) rfl (by omega) (by omega) (by omega) (by omega) rfl ?_
            intro h130I h130E
            generalize h130w : pw_w h127 151 (((12 * k) + mo).toNat) (pw_i 0) = h130 at h130I h130E ⊢
            have h130F := h127F.tr (h130E.wk (W' := [149, 150, 151, 152, 153]) (by first | rfl | simp))
            refine pw_ld E (pc' := 254) (st' := [.ref 141]) rfl (fun _ => rfl) ?_
            refine pw_getR (b := 168) h130I E (c := 125) (k := 39) (pc' := 257) rfl rfl rfl rfl rfl rfl rfl ?_
            refine pw_ld E (pc' := 259) (st' := [pw_i ((12 * k) + mo), .ref 168]) rfl (fun _ => rfl) ?_
            refine pw_ld E (pc' := 261) (st' := [pw_i 1, pw_i ((12 * k) + mo), .ref 168]) rfl (fun _ => rfl) ?_
            refine pw_if E (pc' := 268) rfl (by decide) (by decide) (by decide) ?_ ?_
            · intro hc131
              change (1 : Int) = (0 : Int) at hc131
              exfalso; omega
            · intro hc132
              change ¬ ((1 : Int) = (0 : Int)) at hc132
              refine pw_ld E (pc' := 265) (st' := [pw_i 0, pw_i ((12 * k) + mo), .ref 168]) rfl (fun _ => rfl) ?_
              refine pw_goto E (pc' := 280) rfl (by decide) ?_
              refine pw_ast0 h130I E (c := 152) (pc' := 281) rfl rfl rfl (by decide) rfl (by decide) (by omega) (by omega) rfl (by omega) (by omega) (by omega) (by omega) rfl ?_
              intro h133I h133E
              generalize h133w : pw_w h130 152 (((12 * k) + mo).toNat) (pw_i 0) = h133 at h133I h133E ⊢
              have h133F := h130F.tr (h133E.wk (W' := [149, 150, 151, 152, 153]) (by first | rfl | simp))
              refine pw_vret E rfl ?_
              exact ⟨h133I, h133F, rfl⟩
  · intro hc134
    change ¬ (pw_g h 136 (((12 * (pw_g h 132 (k.toNat))) + mo).toNat) ≤ pw_g h10 133 (k.toNat)) at hc134
    refine pw_ld E (pc' := 105) (st' := [pw_i (pw_g h 136 (((12 * (pw_g h 132 (k.toNat))) + mo).toNat)), pw_i 4, .ref 165]) rfl (fun _ => rfl) ?_
    refine pw_ld E (pc' := 106) (st' := [.ref 141, pw_i (pw_g h 136 (((12 * (pw_g h 132 (k.toNat))) + mo).toNat)), pw_i 4, .ref 165]) rfl (fun _ => rfl) ?_
    refine pw_getR (b := 149) h10I E (c := 125) (k := 12) (pc' := 109) rfl rfl rfl rfl rfl rfl rfl ?_
    refine pw_ld E (pc' := 110) (st' := [pw_i k, .ref 149, pw_i (pw_g h 136 (((12 * (pw_g h 132 (k.toNat))) + mo).toNat)), pw_i 4, .ref 165]) rfl (fun _ => rfl) ?_
    refine pw_ald2 h10I E (c := 133) (pc' := 111) rfl rfl rfl (by decide) rfl (by decide) (by omega) (by omega) rfl (fun hf135a hf135b => ?_)
    refine pw_sub E (pc' := 112) rfl rfl ?_
    refine pw_goto E (pc' := 116) rfl (by decide) ?_
    refine pw_ast0 h10I E (c := 149) (pc' := 117) rfl rfl rfl (by decide) rfl (by decide) (by omega) (by omega) rfl (by omega) (by omega) (by omega) (by omega) rfl ?_
    intro h136I h136E
    generalize h136w : pw_w h10 149 (Int.toNat 4) (pw_i ((pw_g h 136 (((12 * (pw_g h 132 (k.toNat))) + mo).toNat)) - (pw_g h10 133 (k.toNat)))) = h136 at h136I h136E ⊢
    have h136F := h10F.tr (h136E.wk (W' := [149, 150, 151, 152, 153]) (by first | rfl | simp))
    refine pw_ld E (pc' := 118) (st' := [.ref 141]) rfl (fun _ => rfl) ?_
    refine pw_getR (b := 165) h136I E (c := 125) (k := 36) (pc' := 121) rfl rfl rfl rfl rfl rfl rfl ?_
    refine pw_ld E (pc' := 122) (st' := [pw_i 5, .ref 165]) rfl (fun _ => rfl) ?_
    refine pw_ld E (pc' := 123) (st' := [.ref 141, pw_i 5, .ref 165]) rfl (fun _ => rfl) ?_
    refine pw_getR (b := 148) h136I E (c := 125) (k := 11) (pc' := 126) rfl rfl rfl rfl rfl rfl rfl ?_
    refine pw_ld E (pc' := 127) (st' := [pw_i k, .ref 148, pw_i 5, .ref 165]) rfl (fun _ => rfl) ?_
    refine pw_ald2 h136I E (c := 132) (pc' := 128) rfl rfl rfl (by decide) rfl (by decide) (by omega) (by omega) rfl (fun hf137a hf137b => ?_)
    refine pw_ast0 h136I E (c := 149) (pc' := 129) rfl rfl rfl (by decide) rfl (by decide) (by omega) (by omega) rfl (by omega) (by omega) (by omega) (by omega) rfl ?_
    intro h138I h138E
    generalize h138w : pw_w h136 149 (Int.toNat 5) (pw_i (pw_g h136 132 (k.toNat))) = h138 at h138I h138E ⊢
    have h138F := h136F.tr (h138E.wk (W' := [149, 150, 151, 152, 153]) (by first | rfl | simp))
    refine pw_ld E (pc' := 130) (st' := [.ref 141]) rfl (fun _ => rfl) ?_
    refine pw_getR (b := 165) h138I E (c := 125) (k := 36) (pc' := 133) rfl rfl rfl rfl rfl rfl rfl ?_
    refine pw_bip E (pc' := 135) rfl rfl (by decide) ?_
    refine pw_ld E (pc' := 136) (st' := [pw_i mo, pw_i 6, .ref 165]) rfl (fun _ => rfl) ?_
    refine pw_ast0 h138I E (c := 149) (pc' := 137) rfl rfl rfl (by decide) rfl (by decide) (by omega) (by omega) rfl (by omega) (by omega) (by omega) (by omega) rfl ?_
    intro h139I h139E
    generalize h139w : pw_w h138 149 (Int.toNat 6) (pw_i mo) = h139 at h139I h139E ⊢
    have h139F := h138F.tr (h139E.wk (W' := [149, 150, 151, 152, 153]) (by first | rfl | simp))
    refine pw_ld E (pc' := 138) (st' := [.ref 141]) rfl (fun _ => rfl) ?_
    refine pw_getR (b := 165) h139I E (c := 125) (k := 36) (pc' := 141) rfl rfl rfl rfl rfl rfl rfl ?_
    refine pw_bip E (pc' := 143) rfl rfl (by decide) ?_
    refine pw_ld E (pc' := 144) (st' := [.ref 141, pw_i 7, .ref 165]) rfl (fun _ => rfl) ?_
    refine pw_getR (b := 153) h139I E (c := 125) (k := 17) (pc' := 147) rfl rfl rfl rfl rfl rfl rfl ?_
    refine pw_bip E (pc' := 149) rfl rfl (by decide) ?_
    refine pw_ld E (pc' := 150) (st' := [.ref 141, pw_i 12, .ref 153, pw_i 7, .ref 165]) rfl (fun _ => rfl) ?_
    refine pw_getR (b := 148) h139I E (c := 125) (k := 11) (pc' := 153) rfl rfl rfl rfl rfl rfl rfl ?_
    refine pw_ld E (pc' := 154) (st' := [pw_i k, .ref 148, pw_i 12, .ref 153, pw_i 7, .ref 165]) rfl (fun _ => rfl) ?_
    refine pw_ald2 h139I E (c := 132) (pc' := 155) rfl rfl rfl (by decide) rfl (by decide) (by omega) (by omega) rfl (fun hf140a hf140b => ?_)
    refine pw_mul E (pc' := 156) rfl rfl ?_
    refine pw_ld E (pc' := 157) (st' := [pw_i mo, pw_i (12 * (pw_g h139 132 (k.toNat))), .ref 153, pw_i 7, .ref 165]) rfl (fun _ => rfl) ?_
    refine pw_add E (pc' := 158) rfl rfl ?_
    refine pw_ald2 h139I E (c := 137) (pc' := 159) rfl rfl rfl (by decide) rfl (by decide) (by omega) (by omega) rfl (fun hf141a hf141b => ?_)
    refine pw_ast0 h139I E (c := 149) (pc' := 160) rfl rfl rfl (by decide) rfl (by decide) (by omega) (by omega) rfl (by omega) (by omega) (by omega) (by omega) rfl ?_
    intro h142I h142E
    generalize h142w : pw_w h139 149 (Int.toNat 7) (pw_i (pw_g h139 137 (((12 * (pw_g h139 132 (k.toNat))) + mo).toNat))) = h142 at h142I h142E ⊢
    have h142F := h139F.tr (h142E.wk (W' := [149, 150, 151, 152, 153]) (by first | rfl | simp))
    refine pw_ld E (pc' := 161) (st' := [.ref 141]) rfl (fun _ => rfl) ?_
    refine pw_getR (b := 165) h142I E (c := 125) (k := 36) (pc' := 164) rfl rfl rfl rfl rfl rfl rfl ?_
    refine pw_bip E (pc' := 166) rfl rfl (by decide) ?_
    refine pw_ld E (pc' := 168) (st' := [pw_i dr, pw_i 8, .ref 165]) rfl (fun _ => rfl) ?_
    refine pw_ast0 h142I E (c := 149) (pc' := 169) rfl rfl rfl (by decide) rfl (by decide) (by omega) (by omega) rfl (by omega) (by omega) (by omega) (by omega) rfl ?_
    intro h143I h143E
    generalize h143w : pw_w h142 149 (Int.toNat 8) (pw_i dr) = h143 at h143I h143E ⊢
    have h143F := h142F.tr (h143E.wk (W' := [149, 150, 151, 152, 153]) (by first | rfl | simp))
    refine pw_ld E (pc' := 170) (st' := [.ref 141]) rfl (fun _ => rfl) ?_
    refine pw_getR (b := 165) h143I E (c := 125) (k := 36) (pc' := 173) rfl rfl rfl rfl rfl rfl rfl ?_
    refine pw_bip E (pc' := 175) rfl rfl (by decide) ?_
    refine pw_ld E (pc' := 177) (st' := [pw_i (pw_g h 153 ((((12 * k) + mo) - 1).toNat)), pw_i 9, .ref 165]) rfl (fun _ => rfl) ?_
    refine pw_if E (pc' := 184) rfl (by decide) (by omega) (by omega) ?_ ?_
    · intro hc144
      change pw_g h 153 ((((12 * k) + mo) - 1).toNat) = (0 : Int) at hc144
      refine pw_ld E (pc' := 185) (st' := [pw_i 0, pw_i 9, .ref 165]) rfl (fun _ => rfl) ?_
      refine pw_ast0 h143I E (c := 149) (pc' := 186) rfl rfl rfl (by decide) rfl (by decide) (by omega) (by omega) rfl (by omega) (by omega) (by omega) (by omega) rfl ?_
      intro h145I h145E
      generalize h145w : pw_w h143 149 (Int.toNat 9) (pw_i 0) = h145 at h145I h145E ⊢
      have h145F := h143F.tr (h145E.wk (W' := [149, 150, 151, 152, 153]) (by first | rfl | simp))
      refine pw_ld E (pc' := 188) (st' := [pw_i (pw_g h 153 ((((12 * k) + mo) - 1).toNat))]) rfl (fun _ => rfl) ?_
      refine pw_if E (pc' := 208) rfl (by decide) (by omega) (by omega) ?_ ?_
      · intro hc146
        change pw_g h 153 ((((12 * k) + mo) - 1).toNat) = (0 : Int) at hc146
        refine pw_ld E (pc' := 209) (st' := [.ref 141]) rfl (fun _ => rfl) ?_
        refine pw_ld E (pc' := 210) (st' := [pw_i l, .ref 141]) rfl (fun _ => rfl) ?_
        refine pw_ld E (pc' := 211) (st' := [pw_i 2, pw_i l, .ref 141]) rfl (fun _ => rfl) ?_
        obtain ⟨f147l, f147h, -⟩ := pw_obj (c := 125) h145I rfl
        refine pw_call (m' := 262) (As := [.ref 141, pw_i l, pw_i 2]) (rest := []) (ls'' := [some (.ref 141), some (pw_i l), some (pw_i 2)]) (Nat.le_trans (by decide) hd) E rfl (fun _ => pw_iV rfl rfl rfl rfl (pw_cellI f147h rfl)) (rfl : pm_ent 262 = some (3, 3, 12, 1, pmc_262)) rfl rfl (cm_262 (pw_dp hd (by decide)) h145I (l) (by omega) (by omega) (2) (by omega) (by omega) (pw_KE I h145F hp0 rfl)) ?_
        rintro h148 v149 ⟨h148I, h148E, x150, rfl, hx150a, hx150b⟩
        refine ⟨_, rfl, ?_⟩
        have h148F := h145F.tr (h148E.wk (W' := [149, 150, 151, 152, 153]) (by first | rfl | simp))
        show pw X d h148 261 214 [some (.ref 141), some (pw_i l), some (pw_i k), some (pw_i mo), some (pw_i dr), some (pw_i ((12 * k) + mo)), some (pw_i (pw_g h 136 (((12 * (pw_g h 132 (k.toNat))) + mo).toNat))), some (pw_i (pw_g h 153 ((((12 * k) + mo) - 1).toNat))), none] [pw_i x150] _
        refine pw_ist E (pc' := 216) (ls' := [some (.ref 141), some (pw_i l), some (pw_i k), some (pw_i mo), some (pw_i dr), some (pw_i ((12 * k) + mo)), some (pw_i (pw_g h 136 (((12 * (pw_g h 132 (k.toNat))) + mo).toNat))), some (pw_i (pw_g h 153 ((((12 * k) + mo) - 1).toNat))), some (pw_i x150)]) rfl rfl rfl rfl ?_
        refine pw_ld E (pc' := 217) (st' := [.ref 141]) rfl (fun _ => rfl) ?_
        refine pw_getR (b := 169) h148I E (c := 125) (k := 40) (pc' := 220) rfl rfl rfl rfl rfl rfl rfl ?_
        refine pw_ld E (pc' := 222) (st' := [pw_i ((12 * k) + mo), .ref 169]) rfl (fun _ => rfl) ?_
        refine pw_ld E (pc' := 224) (st' := [pw_i x150, pw_i ((12 * k) + mo), .ref 169]) rfl (fun _ => rfl) ?_
        refine pw_ast0 h148I E (c := 153) (pc' := 225) rfl rfl rfl (by decide) rfl (by decide) (by omega) (by omega) (pw_b1 (by omega) (by omega)) (by omega) (by omega) (by omega) (by omega) rfl ?_
        intro h151I h151E
        generalize h151w : pw_w h148 153 (((12 * k) + mo).toNat) (pw_i x150) = h151 at h151I h151E ⊢
        have h151F := h148F.tr (h151E.wk (W' := [149, 150, 151, 152, 153]) (by first | rfl | simp))
        refine pw_ld E (pc' := 226) (st' := [.ref 141]) rfl (fun _ => rfl) ?_
        refine pw_getR (b := 167) h151I E (c := 125) (k := 38) (pc' := 229) rfl rfl rfl rfl rfl rfl rfl ?_
        refine pw_ld E (pc' := 231) (st' := [pw_i ((12 * k) + mo), .ref 167]) rfl (fun _ => rfl) ?_
        refine pw_ld E (pc' := 233) (st' := [pw_i x150, pw_i ((12 * k) + mo), .ref 167]) rfl (fun _ => rfl) ?_
        refine pw_if E (pc' := 240) rfl (by decide) (by omega) (by omega) ?_ ?_
        · intro hc152
          change x150 = (0 : Int) at hc152
          refine pw_ld E (pc' := 241) (st' := [.ref 141, pw_i ((12 * k) + mo), .ref 167]) rfl (fun _ => rfl) ?_
          refine pw_ld E (pc' := 242) (st' := [pw_i l, .ref 141, pw_i ((12 * k) + mo), .ref 167]) rfl (fun _ => rfl) ?_
          refine pw_ld E (pc' := 243) (st' := [pw_i 0, pw_i l, .ref 141, pw_i ((12 * k) + mo), .ref 167]) rfl (fun _ => rfl) ?_
          refine pw_ld E (pc' := 244) (st' := [.ref 141, pw_i 0, pw_i l, .ref 141, pw_i ((12 * k) + mo), .ref 167]) rfl (fun _ => rfl) ?_
          refine pw_getR (b := 165) h151I E (c := 125) (k := 36) (pc' := 247) rfl rfl rfl rfl rfl rfl rfl ?_
          refine pw_ld E (pc' := 248) (st' := [pw_i 0, .ref 165, pw_i 0, pw_i l, .ref 141, pw_i ((12 * k) + mo), .ref 167]) rfl (fun _ => rfl) ?_
          have he154 : pw_g h151 149 (Int.toNat 0) = pw_g h148 149 (Int.toNat 0) := by rw [← h151w]; exact pw_g_ne (by omega)
          have he155 : pw_g h148 149 (Int.toNat 0) = pw_g h145 149 (Int.toNat 0) := pw_Eg (c := 149) h145I h148E rfl rfl _
          have he156 : pw_g h145 149 (Int.toNat 0) = pw_g h143 149 (Int.toNat 0) := by rw [← h145w]; exact pw_g_ne (by omega)
          have he157 : pw_g h143 149 (Int.toNat 0) = pw_g h142 149 (Int.toNat 0) := by rw [← h143w]; exact pw_g_ne (by omega)
          have he158 : pw_g h142 149 (Int.toNat 0) = pw_g h139 149 (Int.toNat 0) := by rw [← h142w]; exact pw_g_ne (by omega)
          have he159 : pw_g h139 149 (Int.toNat 0) = pw_g h138 149 (Int.toNat 0) := by rw [← h139w]; exact pw_g_ne (by omega)
          have he160 : pw_g h138 149 (Int.toNat 0) = pw_g h136 149 (Int.toNat 0) := by rw [← h138w]; exact pw_g_ne (by omega)
          have he161 : pw_g h136 149 (Int.toNat 0) = pw_g h10 149 (Int.toNat 0) := by rw [← h136w]; exact pw_g_ne (by omega)
          have he162 : pw_g h10 149 (Int.toNat 0) = pw_g h9 149 (Int.toNat 0) := by rw [← h10w]; exact pw_g_ne (by omega)
          have he163 : pw_g h9 149 (Int.toNat 0) = pw_g h7 149 (Int.toNat 0) := by rw [← h9w]; exact pw_g_ne (by omega)
          have he164 : pw_g h7 149 (Int.toNat 0) = pw_g h5 149 (Int.toNat 0) := by rw [← h7w]; exact pw_g_ne (by omega)
          have he165 : pw_g h5 149 (Int.toNat 0) = pw_g h 151 ((((12 * k) + mo) - 1).toNat) := by rw [← h5w]; exact pw_g_eqA (c := 149) I rfl (by decide) (by omega) (by omega)
          refine pw_ald2 h151I E (c := 149) (pc' := 249) rfl rfl rfl (by decide) rfl (by decide) (by omega) (by omega) rfl (fun hf153a hf153b => ?_)
          obtain ⟨f166l, f166h, -⟩ := pw_obj (c := 125) h151I rfl
          refine pw_call (m' := 266) (As := [.ref 141, pw_i l, pw_i 0, pw_i (pw_g h151 149 (Int.toNat 0))]) (rest := [pw_i ((12 * k) + mo), .ref 167]) (ls'' := [some (.ref 141), some (pw_i l), some (pw_i 0), some (pw_i (pw_g h151 149 (Int.toNat 0))), none]) (Nat.le_trans (by decide) hd) E rfl (fun _ => pw_iV rfl rfl rfl rfl (pw_cellI f166h rfl)) (rfl : pm_ent 266 = some (4, 5, 12, 0, pmc_266)) rfl rfl (cm_266 (pw_dp hd (by decide)) h151I (l) (by omega) (by omega) (0) (by omega) (by omega) (pw_g h151 149 (Int.toNat 0)) (by omega) (by omega) (pw_KE I h151F hp0 rfl)) ?_
          rintro h167 v168 ⟨h167I, h167E, x169, rfl, hx169a, hx169b⟩
          refine ⟨_, rfl, ?_⟩
          have h167F := h151F.tr (h167E.wk (W' := [149, 150, 151, 152, 153]) (by first | rfl | simp))
          show pw X d h167 261 252 [some (.ref 141), some (pw_i l), some (pw_i k), some (pw_i mo), some (pw_i dr), some (pw_i ((12 * k) + mo)), some (pw_i (pw_g h 136 (((12 * (pw_g h 132 (k.toNat))) + mo).toNat))), some (pw_i (pw_g h 153 ((((12 * k) + mo) - 1).toNat))), some (pw_i x150)] [pw_i x169, pw_i ((12 * k) + mo), .ref 167] _
          refine pw_ast0 h167I E (c := 151) (pc' := 253) rfl rfl rfl (by decide) rfl (by decide) (by omega) (by omega) rfl (by omega) (by omega) (by omega) (by omega) rfl ?_
          intro h170I h170E
          generalize h170w : pw_w h167 151 (((12 * k) + mo).toNat) (pw_i x169) = h170 at h170I h170E ⊢
          have h170F := h167F.tr (h170E.wk (W' := [149, 150, 151, 152, 153]) (by first | rfl | simp))
          refine pw_ld E (pc' := 254) (st' := [.ref 141]) rfl (fun _ => rfl) ?_
          refine pw_getR (b := 168) h170I E (c := 125) (k := 39) (pc' := 257) rfl rfl rfl rfl rfl rfl rfl ?_
          refine pw_ld E (pc' := 259) (st' := [pw_i ((12 * k) + mo), .ref 168]) rfl (fun _ => rfl) ?_
          refine pw_ld E (pc' := 261) (st' := [pw_i x150, pw_i ((12 * k) + mo), .ref 168]) rfl (fun _ => rfl) ?_
          refine pw_if E (pc' := 268) rfl (by decide) (by omega) (by omega) ?_ ?_
          · intro hc171
            change x150 = (0 : Int) at hc171
            refine pw_ld E (pc' := 269) (st' := [.ref 141, pw_i ((12 * k) + mo), .ref 168]) rfl (fun _ => rfl) ?_
            refine pw_ld E (pc' := 270) (st' := [pw_i l, .ref 141, pw_i ((12 * k) + mo), .ref 168]) rfl (fun _ => rfl) ?_
            refine pw_ld E (pc' := 271) (st' := [pw_i 1, pw_i l, .ref 141, pw_i ((12 * k) + mo), .ref 168]) rfl (fun _ => rfl) ?_
            refine pw_ld E (pc' := 272) (st' := [.ref 141, pw_i 1, pw_i l, .ref 141, pw_i ((12 * k) + mo), .ref 168]) rfl (fun _ => rfl) ?_
            refine pw_getR (b := 165) h170I E (c := 125) (k := 36) (pc' := 275) rfl rfl rfl rfl rfl rfl rfl ?_
            refine pw_ld E (pc' := 276) (st' := [pw_i 1, .ref 165, pw_i 1, pw_i l, .ref 141, pw_i ((12 * k) + mo), .ref 168]) rfl (fun _ => rfl) ?_
            have he173 : pw_g h170 149 (Int.toNat 1) = pw_g h167 149 (Int.toNat 1) := by rw [← h170w]; exact pw_g_ne (by omega)
            have he174 : pw_g h167 149 (Int.toNat 1) = pw_g h151 149 (Int.toNat 1) := pw_Eg (c := 149) h151I h167E rfl rfl _
            have he175 : pw_g h151 149 (Int.toNat 1) = pw_g h148 149 (Int.toNat 1) := by rw [← h151w]; exact pw_g_ne (by omega)
            have he176 : pw_g h148 149 (Int.toNat 1) = pw_g h145 149 (Int.toNat 1) := pw_Eg (c := 149) h145I h148E rfl rfl _
            have he177 : pw_g h145 149 (Int.toNat 1) = pw_g h143 149 (Int.toNat 1) := by rw [← h145w]; exact pw_g_ne (by omega)
            have he178 : pw_g h143 149 (Int.toNat 1) = pw_g h142 149 (Int.toNat 1) := by rw [← h143w]; exact pw_g_ne (by omega)
            have he179 : pw_g h142 149 (Int.toNat 1) = pw_g h139 149 (Int.toNat 1) := by rw [← h142w]; exact pw_g_ne (by omega)
            have he180 : pw_g h139 149 (Int.toNat 1) = pw_g h138 149 (Int.toNat 1) := by rw [← h139w]; exact pw_g_ne (by omega)
            have he181 : pw_g h138 149 (Int.toNat 1) = pw_g h136 149 (Int.toNat 1) := by rw [← h138w]; exact pw_g_ne (by omega)
            have he182 : pw_g h136 149 (Int.toNat 1) = pw_g h10 149 (Int.toNat 1) := by rw [← h136w]; exact pw_g_ne (by omega)
            have he183 : pw_g h10 149 (Int.toNat 1) = pw_g h9 149 (Int.toNat 1) := by rw [← h10w]; exact pw_g_ne (by omega)
            have he184 : pw_g h9 149 (Int.toNat 1) = pw_g h7 149 (Int.toNat 1) := by rw [← h9w]; exact pw_g_ne (by omega)
            have he185 : pw_g h7 149 (Int.toNat 1) = pw_g h5 152 ((((12 * k) + mo) - 1).toNat) := by rw [← h7w]; exact pw_g_eqA (c := 149) h5I rfl (by decide) (by omega) (by omega)
            refine pw_ald2 h170I E (c := 149) (pc' := 277) rfl rfl rfl (by decide) rfl (by decide) (by omega) (by omega) rfl (fun hf172a hf172b => ?_)
            obtain ⟨f186l, f186h, -⟩ := pw_obj (c := 125) h170I rfl
            refine pw_call (m' := 266) (As := [.ref 141, pw_i l, pw_i 1, pw_i (pw_g h170 149 (Int.toNat 1))]) (rest := [pw_i ((12 * k) + mo), .ref 168]) (ls'' := [some (.ref 141), some (pw_i l), some (pw_i 1), some (pw_i (pw_g h170 149 (Int.toNat 1))), none]) (Nat.le_trans (by decide) hd) E rfl (fun _ => pw_iV rfl rfl rfl rfl (pw_cellI f186h rfl)) (rfl : pm_ent 266 = some (4, 5, 12, 0, pmc_266)) rfl rfl (cm_266 (pw_dp hd (by decide)) h170I (l) (by omega) (by omega) (1) (by omega) (by omega) (pw_g h170 149 (Int.toNat 1)) (by omega) (by omega) (pw_KE I h170F hp0 rfl)) ?_
            rintro h187 v188 ⟨h187I, h187E, x189, rfl, hx189a, hx189b⟩
            refine ⟨_, rfl, ?_⟩
            have h187F := h170F.tr (h187E.wk (W' := [149, 150, 151, 152, 153]) (by first | rfl | simp))
            show pw X d h187 261 280 [some (.ref 141), some (pw_i l), some (pw_i k), some (pw_i mo), some (pw_i dr), some (pw_i ((12 * k) + mo)), some (pw_i (pw_g h 136 (((12 * (pw_g h 132 (k.toNat))) + mo).toNat))), some (pw_i (pw_g h 153 ((((12 * k) + mo) - 1).toNat))), some (pw_i x150)] [pw_i x189, pw_i ((12 * k) + mo), .ref 168] _
            refine pw_ast0 h187I E (c := 152) (pc' := 281) rfl rfl rfl (by decide) rfl (by decide) (by omega) (by omega) rfl (by omega) (by omega) (by omega) (by omega) rfl ?_
            intro h190I h190E
            generalize h190w : pw_w h187 152 (((12 * k) + mo).toNat) (pw_i x189) = h190 at h190I h190E ⊢
            have h190F := h187F.tr (h190E.wk (W' := [149, 150, 151, 152, 153]) (by first | rfl | simp))
            refine pw_vret E rfl ?_
            exact ⟨h190I, h190F, rfl⟩
          · intro hc191
            change ¬ (x150 = (0 : Int)) at hc191
            exfalso; omega
        · intro hc192
          change ¬ (x150 = (0 : Int)) at hc192
          refine pw_ld E (pc' := 237) (st' := [pw_i 0, pw_i ((12 * k) + mo), .ref 167]) rfl (fun _ => rfl) ?_
          refine pw_goto E (pc' := 252) rfl (by decide) ?_
          refine pw_ast0 h151I E (c := 151) (pc' := 253) rfl rfl rfl (by decide) rfl (by decide) (by omega) (by omega) rfl (by omega) (by omega) (by omega) (by omega) rfl ?_
          intro h193I h193E
          generalize h193w : pw_w h151 151 (((12 * k) + mo).toNat) (pw_i 0) = h193 at h193I h193E ⊢
          have h193F := h151F.tr (h193E.wk (W' := [149, 150, 151, 152, 153]) (by first | rfl | simp))
          refine pw_ld E (pc' := 254) (st' := [.ref 141]) rfl (fun _ => rfl) ?_
          refine pw_getR (b := 168) h193I E (c := 125) (k := 39) (pc' := 257) rfl rfl rfl rfl rfl rfl rfl ?_
          refine pw_ld E (pc' := 259) (st' := [pw_i ((12 * k) + mo), .ref 168]) rfl (fun _ => rfl) ?_
          refine pw_ld E (pc' := 261) (st' := [pw_i x150, pw_i ((12 * k) + mo), .ref 168]) rfl (fun _ => rfl) ?_
          refine pw_if E (pc' := 268) rfl (by decide) (by omega) (by omega) ?_ ?_
          · intro hc194
            change x150 = (0 : Int) at hc194
            exfalso; omega
          · intro hc195
            change ¬ (x150 = (0 : Int)) at hc195
            refine pw_ld E (pc' := 265) (st' := [pw_i 0, pw_i ((12 * k) + mo), .ref 168]) rfl (fun _ => rfl) ?_
            refine pw_goto E (pc' := 280) rfl (by decide) ?_
            refine pw_ast0 h193I E (c := 152) (pc' := 281) rfl rfl rfl (by decide) rfl (by decide) (by omega) (by omega) rfl (by omega) (by omega) (by omega) (by omega) rfl ?_
            intro h196I h196E
            generalize h196w : pw_w h193 152 (((12 * k) + mo).toNat) (pw_i 0) = h196 at h196I h196E ⊢
            have h196F := h193F.tr (h196E.wk (W' := [149, 150, 151, 152, 153]) (by first | rfl | simp))
            refine pw_vret E rfl ?_
            exact ⟨h196I, h196F, rfl⟩
      · intro hc197
        change ¬ (pw_g h 153 ((((12 * k) + mo) - 1).toNat) = (0 : Int)) at hc197
        exfalso; omega
    · intro hc198
      change ¬ (pw_g h 153 ((((12 * k) + mo) - 1).toNat) = (0 : Int)) at hc198
      refine pw_ld E (pc' := 181) (st' := [pw_i 1, pw_i 9, .ref 165]) rfl (fun _ => rfl) ?_
      refine pw_goto E (pc' := 185) rfl (by decide) ?_
      refine pw_ast0 h143I E (c := 149) (pc' := 186) rfl rfl rfl (by decide) rfl (by decide) (by omega) (by omega) rfl (by omega) (by omega) (by omega) (by omega) rfl ?_
      intro h199I h199E
      generalize h199w : pw_w h143 149 (Int.toNat 9) (pw_i 1) = h199 at h199I h199E ⊢
      have h199F := h143F.tr (h199E.wk (W' := [149, 150, 151, 152, 153]) (by first | rfl | simp))
      refine pw_ld E (pc' := 188) (st' := [pw_i (pw_g h 153 ((((12 * k) + mo) - 1).toNat))]) rfl (fun _ => rfl) ?_
      refine pw_if E (pc' := 208) rfl (by decide) (by omega) (by omega) ?_ ?_
      · intro hc200
        change pw_g h 153 ((((12 * k) + mo) - 1).toNat) = (0 : Int) at hc200
        exfalso; omega
      · intro hc201
        change ¬ (pw_g h 153 ((((12 * k) + mo) - 1).toNat) = (0 : Int)) at hc201
        refine pw_ld E (pc' := 192) (st' := [.ref 141]) rfl (fun _ => rfl) ?_
        refine pw_ld E (pc' := 193) (st' := [pw_i l, .ref 141]) rfl (fun _ => rfl) ?_
        refine pw_ld E (pc' := 194) (st' := [pw_i 3, pw_i l, .ref 141]) rfl (fun _ => rfl) ?_
        obtain ⟨f202l, f202h, -⟩ := pw_obj (c := 125) h199I rfl
        refine pw_call (m' := 262) (As := [.ref 141, pw_i l, pw_i 3]) (rest := []) (ls'' := [some (.ref 141), some (pw_i l), some (pw_i 3)]) (Nat.le_trans (by decide) hd) E rfl (fun _ => pw_iV rfl rfl rfl rfl (pw_cellI f202h rfl)) (rfl : pm_ent 262 = some (3, 3, 12, 1, pmc_262)) rfl rfl (cm_262 (pw_dp hd (by decide)) h199I (l) (by omega) (by omega) (3) (by omega) (by omega) (pw_KE I h199F hp0 rfl)) ?_
        rintro h203 v204 ⟨h203I, h203E, x205, rfl, hx205a, hx205b⟩
        refine ⟨_, rfl, ?_⟩
        have h203F := h199F.tr (h203E.wk (W' := [149, 150, 151, 152, 153]) (by first | rfl | simp))
        show pw X d h203 261 197 [some (.ref 141), some (pw_i l), some (pw_i k), some (pw_i mo), some (pw_i dr), some (pw_i ((12 * k) + mo)), some (pw_i (pw_g h 136 (((12 * (pw_g h 132 (k.toNat))) + mo).toNat))), some (pw_i (pw_g h 153 ((((12 * k) + mo) - 1).toNat))), none] [pw_i x205] _
        refine pw_if E (pc' := 204) rfl (by decide) (by omega) (by omega) ?_ ?_
        · intro hc206
          change x205 ≠ (0 : Int) at hc206
          refine pw_ld E (pc' := 205) (st' := [pw_i 0]) rfl (fun _ => rfl) ?_
          refine pw_goto E (pc' := 214) rfl (by decide) ?_
          refine pw_ist E (pc' := 216) (ls' := [some (.ref 141), some (pw_i l), some (pw_i k), some (pw_i mo), some (pw_i dr), some (pw_i ((12 * k) + mo)), some (pw_i (pw_g h 136 (((12 * (pw_g h 132 (k.toNat))) + mo).toNat))), some (pw_i (pw_g h 153 ((((12 * k) + mo) - 1).toNat))), some (pw_i 0)]) rfl rfl rfl rfl ?_
          refine pw_ld E (pc' := 217) (st' := [.ref 141]) rfl (fun _ => rfl) ?_
          refine pw_getR (b := 169) h203I E (c := 125) (k := 40) (pc' := 220) rfl rfl rfl rfl rfl rfl rfl ?_
          refine pw_ld E (pc' := 222) (st' := [pw_i ((12 * k) + mo), .ref 169]) rfl (fun _ => rfl) ?_
          refine pw_ld E (pc' := 224) (st' := [pw_i 0, pw_i ((12 * k) + mo), .ref 169]) rfl (fun _ => rfl) ?_
          refine pw_ast0 h203I E (c := 153) (pc' := 225) rfl rfl rfl (by decide) rfl (by decide) (by omega) (by omega) (pw_b1 (by omega) (by omega)) (by omega) (by omega) (by omega) (by omega) rfl ?_
          intro h207I h207E
          generalize h207w : pw_w h203 153 (((12 * k) + mo).toNat) (pw_i 0) = h207 at h207I h207E ⊢
          have h207F := h203F.tr (h207E.wk (W' := [149, 150, 151, 152, 153]) (by first | rfl | simp))
          refine pw_ld E (pc' := 226) (st' := [.ref 141]) rfl (fun _ => rfl) ?_
          refine pw_getR (b := 167) h207I E (c := 125) (k := 38) (pc' := 229) rfl rfl rfl rfl rfl rfl rfl ?_
          refine pw_ld E (pc' := 231) (st' := [pw_i ((12 * k) + mo), .ref 167]) rfl (fun _ => rfl) ?_
          refine pw_ld E (pc' := 233) (st' := [pw_i 0, pw_i ((12 * k) + mo), .ref 167]) rfl (fun _ => rfl) ?_
          refine pw_if E (pc' := 240) rfl (by decide) (by decide) (by decide) ?_ ?_
          · intro hc208
            change (0 : Int) = (0 : Int) at hc208
            refine pw_ld E (pc' := 241) (st' := [.ref 141, pw_i ((12 * k) + mo), .ref 167]) rfl (fun _ => rfl) ?_
            refine pw_ld E (pc' := 242) (st' := [pw_i l, .ref 141, pw_i ((12 * k) + mo), .ref 167]) rfl (fun _ => rfl) ?_
            refine pw_ld E (pc' := 243) (st' := [pw_i 0, pw_i l, .ref 141, pw_i ((12 * k) + mo), .ref 167]) rfl (fun _ => rfl) ?_
            refine pw_ld E (pc' := 244) (st' := [.ref 141, pw_i 0, pw_i l, .ref 141, pw_i ((12 * k) + mo), .ref 167]) rfl (fun _ => rfl) ?_
            refine pw_getR (b := 165) h207I E (c := 125) (k := 36) (pc' := 247) rfl rfl rfl rfl rfl rfl rfl ?_
            refine pw_ld E (pc' := 248) (st' := [pw_i 0, .ref 165, pw_i 0, pw_i l, .ref 141, pw_i ((12 * k) + mo), .ref 167]) rfl (fun _ => rfl) ?_
            have he210 : pw_g h207 149 (Int.toNat 0) = pw_g h203 149 (Int.toNat 0) := by rw [← h207w]; exact pw_g_ne (by omega)
            have he211 : pw_g h203 149 (Int.toNat 0) = pw_g h199 149 (Int.toNat 0) := pw_Eg (c := 149) h199I h203E rfl rfl _
            have he212 : pw_g h199 149 (Int.toNat 0) = pw_g h143 149 (Int.toNat 0) := by rw [← h199w]; exact pw_g_ne (by omega)
            have he213 : pw_g h143 149 (Int.toNat 0) = pw_g h142 149 (Int.toNat 0) := by rw [← h143w]; exact pw_g_ne (by omega)
            have he214 : pw_g h142 149 (Int.toNat 0) = pw_g h139 149 (Int.toNat 0) := by rw [← h142w]; exact pw_g_ne (by omega)
            have he215 : pw_g h139 149 (Int.toNat 0) = pw_g h138 149 (Int.toNat 0) := by rw [← h139w]; exact pw_g_ne (by omega)
            have he216 : pw_g h138 149 (Int.toNat 0) = pw_g h136 149 (Int.toNat 0) := by rw [← h138w]; exact pw_g_ne (by omega)
            have he217 : pw_g h136 149 (Int.toNat 0) = pw_g h10 149 (Int.toNat 0) := by rw [← h136w]; exact pw_g_ne (by omega)
            have he218 : pw_g h10 149 (Int.toNat 0) = pw_g h9 149 (Int.toNat 0) := by rw [← h10w]; exact pw_g_ne (by omega)
            have he219 : pw_g h9 149 (Int.toNat 0) = pw_g h7 149 (Int.toNat 0) := by rw [← h9w]; exact pw_g_ne (by omega)
            have he220 : pw_g h7 149 (Int.toNat 0) = pw_g h5 149 (Int.toNat 0) := by rw [← h7w]; exact pw_g_ne (by omega)
            have he221 : pw_g h5 149 (Int.toNat 0) = pw_g h 151 ((((12 * k) + mo) - 1).toNat) := by rw [← h5w]; exact pw_g_eqA (c := 149) I rfl (by decide) (by omega) (by omega)
            refine pw_ald2 h207I E (c := 149) (pc' := 249) rfl rfl rfl (by decide) rfl (by decide) (by omega) (by omega) rfl (fun hf209a hf209b => ?_)
            obtain ⟨f222l, f222h, -⟩ := pw_obj (c := 125) h207I rfl
            refine pw_call (m' := 266) (As := [.ref 141, pw_i l, pw_i 0, pw_i (pw_g h207 149 (Int.toNat 0))]) (rest := [pw_i ((12 * k) + mo), .ref 167]) (ls'' := [some (.ref 141), some (pw_i l), some (pw_i 0), some (pw_i (pw_g h207 149 (Int.toNat 0))), none]) (Nat.le_trans (by decide) hd) E rfl (fun _ => pw_iV rfl rfl rfl rfl (pw_cellI f222h rfl)) (rfl : pm_ent 266 = some (4, 5, 12, 0, pmc_266)) rfl rfl (cm_266 (pw_dp hd (by decide)) h207I (l) (by omega) (by omega) (0) (by omega) (by omega) (pw_g h207 149 (Int.toNat 0)) (by omega) (by omega) (pw_KE I h207F hp0 rfl)) ?_
            rintro h223 v224 ⟨h223I, h223E, x225, rfl, hx225a, hx225b⟩
            refine ⟨_, rfl, ?_⟩
            have h223F := h207F.tr (h223E.wk (W' := [149, 150, 151, 152, 153]) (by first | rfl | simp))
            show pw X d h223 261 252 [some (.ref 141), some (pw_i l), some (pw_i k), some (pw_i mo), some (pw_i dr), some (pw_i ((12 * k) + mo)), some (pw_i (pw_g h 136 (((12 * (pw_g h 132 (k.toNat))) + mo).toNat))), some (pw_i (pw_g h 153 ((((12 * k) + mo) - 1).toNat))), some (pw_i 0)] [pw_i x225, pw_i ((12 * k) + mo), .ref 167] _
            refine pw_ast0 h223I E (c := 151) (pc' := 253) rfl rfl rfl (by decide) rfl (by decide) (by omega) (by omega) rfl (by omega) (by omega) (by omega) (by omega) rfl ?_
            intro h226I h226E
            generalize h226w : pw_w h223 151 (((12 * k) + mo).toNat) (pw_i x225) = h226 at h226I h226E ⊢
            have h226F := h223F.tr (h226E.wk (W' := [149, 150, 151, 152, 153]) (by first | rfl | simp))
            refine pw_ld E (pc' := 254) (st' := [.ref 141]) rfl (fun _ => rfl) ?_
            refine pw_getR (b := 168) h226I E (c := 125) (k := 39) (pc' := 257) rfl rfl rfl rfl rfl rfl rfl ?_
            refine pw_ld E (pc' := 259) (st' := [pw_i ((12 * k) + mo), .ref 168]) rfl (fun _ => rfl) ?_
            refine pw_ld E (pc' := 261) (st' := [pw_i 0, pw_i ((12 * k) + mo), .ref 168]) rfl (fun _ => rfl) ?_
            refine pw_if E (pc' := 268) rfl (by decide) (by decide) (by decide) ?_ ?_
            · intro hc227
              change (0 : Int) = (0 : Int) at hc227
              refine pw_ld E (pc' := 269) (st' := [.ref 141, pw_i ((12 * k) + mo), .ref 168]) rfl (fun _ => rfl) ?_
              refine pw_ld E (pc' := 270) (st' := [pw_i l, .ref 141, pw_i ((12 * k) + mo), .ref 168]) rfl (fun _ => rfl) ?_
              refine pw_ld E (pc' := 271) (st' := [pw_i 1, pw_i l, .ref 141, pw_i ((12 * k) + mo), .ref 168]) rfl (fun _ => rfl) ?_
              refine pw_ld E (pc' := 272) (st' := [.ref 141, pw_i 1, pw_i l, .ref 141, pw_i ((12 * k) + mo), .ref 168]) rfl (fun _ => rfl) ?_
              refine pw_getR (b := 165) h226I E (c := 125) (k := 36) (pc' := 275) rfl rfl rfl rfl rfl rfl rfl ?_
              refine pw_ld E (pc' := 276) (st' := [pw_i 1, .ref 165, pw_i 1, pw_i l, .ref 141, pw_i ((12 * k) + mo), .ref 168]) rfl (fun _ => rfl) ?_
              have he229 : pw_g h226 149 (Int.toNat 1) = pw_g h223 149 (Int.toNat 1) := by rw [← h226w]; exact pw_g_ne (by omega)
              have he230 : pw_g h223 149 (Int.toNat 1) = pw_g h207 149 (Int.toNat 1) := pw_Eg (c := 149) h207I h223E rfl rfl _
              have he231 : pw_g h207 149 (Int.toNat 1) = pw_g h203 149 (Int.toNat 1) := by rw [← h207w]; exact pw_g_ne (by omega)
              have he232 : pw_g h203 149 (Int.toNat 1) = pw_g h199 149 (Int.toNat 1) := pw_Eg (c := 149) h199I h203E rfl rfl _
              have he233 : pw_g h199 149 (Int.toNat 1) = pw_g h143 149 (Int.toNat 1) := by rw [← h199w]; exact pw_g_ne (by omega)
              have he234 : pw_g h143 149 (Int.toNat 1) = pw_g h142 149 (Int.toNat 1) := by rw [← h143w]; exact pw_g_ne (by omega)
              have he235 : pw_g h142 149 (Int.toNat 1) = pw_g h139 149 (Int.toNat 1) := by rw [← h142w]; exact pw_g_ne (by omega)
              have he236 : pw_g h139 149 (Int.toNat 1) = pw_g h138 149 (Int.toNat 1) := by rw [← h139w]; exact pw_g_ne (by omega)
              have he237 : pw_g h138 149 (Int.toNat 1) = pw_g h136 149 (Int.toNat 1) := by rw [← h138w]; exact pw_g_ne (by omega)
              have he238 : pw_g h136 149 (Int.toNat 1) = pw_g h10 149 (Int.toNat 1) := by rw [← h136w]; exact pw_g_ne (by omega)
              have he239 : pw_g h10 149 (Int.toNat 1) = pw_g h9 149 (Int.toNat 1) := by rw [← h10w]; exact pw_g_ne (by omega)
              have he240 : pw_g h9 149 (Int.toNat 1) = pw_g h7 149 (Int.toNat 1) := by rw [← h9w]; exact pw_g_ne (by omega)
              have he241 : pw_g h7 149 (Int.toNat 1) = pw_g h5 152 ((((12 * k) + mo) - 1).toNat) := by rw [← h7w]; exact pw_g_eqA (c := 149) h5I rfl (by decide) (by omega) (by omega)
              refine pw_ald2 h226I E (c := 149) (pc' := 277) rfl rfl rfl (by decide) rfl (by decide) (by omega) (by omega) rfl (fun hf228a hf228b => ?_)
              obtain ⟨f242l, f242h, -⟩ := pw_obj (c := 125) h226I rfl
              refine pw_call (m' := 266) (As := [.ref 141, pw_i l, pw_i 1, pw_i (pw_g h226 149 (Int.toNat 1))]) (rest := [pw_i ((12 * k) + mo), .ref 168]) (ls'' := [some (.ref 141), some (pw_i l), some (pw_i 1), some (pw_i (pw_g h226 149 (Int.toNat 1))), none]) (Nat.le_trans (by decide) hd) E rfl (fun _ => pw_iV rfl rfl rfl rfl (pw_cellI f242h rfl)) (rfl : pm_ent 266 = some (4, 5, 12, 0, pmc_266)) rfl rfl (cm_266 (pw_dp hd (by decide)) h226I (l) (by omega) (by omega) (1) (by omega) (by omega) (pw_g h226 149 (Int.toNat 1)) (by omega) (by omega) (pw_KE I h226F hp0 rfl)) ?_
              rintro h243 v244 ⟨h243I, h243E, x245, rfl, hx245a, hx245b⟩
              refine ⟨_, rfl, ?_⟩
              have h243F := h226F.tr (h243E.wk (W' := [149, 150, 151, 152, 153]) (by first | rfl | simp))
              show pw X d h243 261 280 [some (.ref 141), some (pw_i l), some (pw_i k), some (pw_i mo), some (pw_i dr), some (pw_i ((12 * k) + mo)), some (pw_i (pw_g h 136 (((12 * (pw_g h 132 (k.toNat))) + mo).toNat))), some (pw_i (pw_g h 153 ((((12 * k) + mo) - 1).toNat))), some (pw_i 0)] [pw_i x245, pw_i ((12 * k) + mo), .ref 168] _
              refine pw_ast0 h243I E (c := 152) (pc' := 281) rfl rfl rfl (by decide) rfl (by decide) (by omega) (by omega) rfl (by omega) (by omega) (by omega) (by omega) rfl ?_
              intro h246I h246E
              generalize h246w : pw_w h243 152 (((12 * k) + mo).toNat) (pw_i x245) = h246 at h246I h246E ⊢
              have h246F := h243F.tr (h246E.wk (W' := [149, 150, 151, 152, 153]) (by first | rfl | simp))
              refine pw_vret E rfl ?_
              exact ⟨h246I, h246F, rfl⟩
            · intro hc247
              change ¬ ((0 : Int) = (0 : Int)) at hc247
              exfalso; omega
          · intro hc248
            change ¬ ((0 : Int) = (0 : Int)) at hc248
            exfalso; omega
        · intro hc249
          change ¬ (x205 ≠ (0 : Int)) at hc249
          refine pw_ld E (pc' := 201) (st' := [pw_i 1]) rfl (fun _ => rfl) ?_
          refine pw_goto E (pc' := 214) rfl (by decide) ?_
          refine pw_ist E (pc' := 216) (ls' := [some (.ref 141), some (pw_i l), some (pw_i k), some (pw_i mo), some (pw_i dr), some (pw_i ((12 * k) + mo)), some (pw_i (pw_g h 136 (((12 * (pw_g h 132 (k.toNat))) + mo).toNat))), some (pw_i (pw_g h 153 ((((12 * k) + mo) - 1).toNat))), some (pw_i 1)]) rfl rfl rfl rfl ?_
          refine pw_ld E (pc' := 217) (st' := [.ref 141]) rfl (fun _ => rfl) ?_
          refine pw_getR (b := 169) h203I E (c := 125) (k := 40) (pc' := 220) rfl rfl rfl rfl rfl rfl rfl ?_
          refine pw_ld E (pc' := 222) (st' := [pw_i ((12 * k) + mo), .ref 169]) rfl (fun _ => rfl) ?_
          refine pw_ld E (pc' := 224) (st' := [pw_i 1, pw_i ((12 * k) + mo), .ref 169]) rfl (fun _ => rfl) ?_
          refine pw_ast0 h203I E (c := 153) (pc' := 225) rfl rfl rfl (by decide) rfl (by decide) (by omega) (by omega) (pw_b1 (by omega) (by omega)) (by omega) (by omega) (by omega) (by omega) rfl ?_
          intro h250I h250E
          generalize h250w : pw_w h203 153 (((12 * k) + mo).toNat) (pw_i 1) = h250 at h250I h250E ⊢
          have h250F := h203F.tr (h250E.wk (W' := [149, 150, 151, 152, 153]) (by first | rfl | simp))
          refine pw_ld E (pc' := 226) (st' := [.ref 141]) rfl (fun _ => rfl) ?_
          refine pw_getR (b := 167) h250I E (c := 125) (k := 38) (pc' := 229) rfl rfl rfl rfl rfl rfl rfl ?_
          refine pw_ld E (pc' := 231) (st' := [pw_i ((12 * k) + mo), .ref 167]) rfl (fun _ => rfl) ?_
          refine pw_ld E (pc' := 233) (st' := [pw_i 1, pw_i ((12 * k) + mo), .ref 167]) rfl (fun _ => rfl) ?_
          refine pw_if E (pc' := 240) rfl (by decide) (by decide) (by decide) ?_ ?_
          · intro hc251
            change (1 : Int) = (0 : Int) at hc251
            exfalso; omega
          · intro hc252
            change ¬ ((1 : Int) = (0 : Int)) at hc252
            refine pw_ld E (pc' := 237) (st' := [pw_i 0, pw_i ((12 * k) + mo), .ref 167]) rfl (fun _ => rfl) ?_
            refine pw_goto E (pc' := 252) rfl (by decide) ?_
            refine pw_ast0 h250I E (c := 151) (pc' := 253) rfl rfl rfl (by decide) rfl (by decide) (by omega) (by omega) rfl (by omega) (by omega) (by omega) (by omega) rfl ?_
            intro h253I h253E
            generalize h253w : pw_w h250 151 (((12 * k) + mo).toNat) (pw_i 0) = h253 at h253I h253E ⊢
            have h253F := h250F.tr (h253E.wk (W' := [149, 150, 151, 152, 153]) (by first | rfl | simp))
            refine pw_ld E (pc' := 254) (st' := [.ref 141]) rfl (fun _ => rfl) ?_
            refine pw_getR (b := 168) h253I E (c := 125) (k := 39) (pc' := 257) rfl rfl rfl rfl rfl rfl rfl ?_
            refine pw_ld E (pc' := 259) (st' := [pw_i ((12 * k) + mo), .ref 168]) rfl (fun _ => rfl) ?_
            refine pw_ld E (pc' := 261) (st' := [pw_i 1, pw_i ((12 * k) + mo), .ref 168]) rfl (fun _ => rfl) ?_
            refine pw_if E (pc' := 268) rfl (by decide) (by decide) (by decide) ?_ ?_
            · intro hc254
              change (1 : Int) = (0 : Int) at hc254
              exfalso; omega
            · intro hc255
              change ¬ ((1 : Int) = (0 : Int)) at hc255
              refine pw_ld E (pc' := 265) (st' := [pw_i 0, pw_i ((12 * k) + mo), .ref 168]) rfl (fun _ => rfl) ?_
              refine pw_goto E (pc' := 280) rfl (by decide) ?_
              refine pw_ast0 h253I E (c := 152) (pc' := 281) rfl rfl rfl (by decide) rfl (by decide) (by omega) (by omega) rfl (by omega) (by omega) (by omega) (by omega) rfl ?_
              intro h256I h256E
              generalize h256w : pw_w h253 152 (((12 * k) + mo).toNat) (pw_i 0) = h256 at h256I h256E ⊢
              have h256F := h253F.tr (h256E.wk (W' := [149, 150, 151, 152, 153]) (by first | rfl | simp))
              refine pw_vret E rfl ?_
              exact ⟨h256I, h256F, rfl⟩
set_option maxHeartbeats 4000000 in
theorem cm_260 {X : List (Nat × List Value)} {d : Nat} {h : pm_H} (hd : 6 ≤ d) (I : pw_I h) (l : Int) (hl1 : 0 ≤ l) (hl2 : l ≤ 3) (sd : Int) (hsd1 : (-2147483648) ≤ sd) (hsd2 : sd ≤ 2147483647) (hp0 : pw_K h) : pw X d h 260 0 [some (.ref 141), some (pw_i l), some (pw_i sd), none, none, none, none] [] (fun h' v => pw_I h' ∧ pw_E [149, 150, 151, 152, 153] h h' ∧ v = .inl none) := by
  have E : pm_ent 260 = some (3, 7, 12, 4, pmc_260) := rfl
  have E0 : pw_E [149, 150, 151, 152, 153] h h := pw_E.rf _ _
  refine pw_ld E (pc' := 1) (st' := [pw_i sd]) rfl (fun _ => rfl) ?_
  refine pw_i2l E (pc' := 2) rfl rfl (by omega) (by omega) ?_
  refine pw_lstn E (pc' := 3) (ls' := [some (.ref 141), some (pw_i l), some (pw_i sd), some (.long (Int64.ofInt sd)), none, none, none]) rfl rfl rfl rfl ?_
  refine pw_ld E (pc' := 4) (st' := [pw_i 0]) rfl (fun _ => rfl) ?_
  refine pw_ist E (pc' := 6) (ls' := [some (.ref 141), some (pw_i l), some (pw_i sd), some (.long (Int64.ofInt sd)), none, some (pw_i 0), none]) rfl rfl rfl rfl ?_
  have L6 : ∀ (n6 : Nat) (k6_5 : Int) (gh6 : pm_H), pw_I gh6 → pw_E [149, 150, 151, 152, 153] h gh6 → 0 ≤ k6_5 → k6_5 ≤ 24 → (24 - k6_5).toNat = n6 → pw X d gh6 260 6 [some (.ref 141), some (pw_i l), some (pw_i sd), some (.long (Int64.ofInt sd)), none, some (pw_i k6_5), none] [] (fun h' v => pw_I h' ∧ pw_E [149, 150, 151, 152, 153] h h' ∧ v = .inl none) := by
    intro n6
    induction n6 using Nat.strongRecOn with
    | ind n6 ih6 =>
      intro k6_5 gh6 I6 E6 k6_5a k6_5b hm6
      refine pw_ld E (pc' := 8) (st' := [pw_i k6_5]) rfl (fun _ => rfl) ?_
      refine pw_bip E (pc' := 10) rfl rfl (by decide) ?_
      refine pw_if2 E (pc' := 88) rfl (by decide) (by omega) (by omega) (by decide) (by decide) ?_ ?_
      · intro hc1
        change (24 : Int) ≤ k6_5 at hc1
        refine pw_ld E (pc' := 89) (st' := [pw_i 1]) rfl (fun _ => rfl) ?_
        refine pw_ist E (pc' := 91) (ls' := [some (.ref 141), some (pw_i l), some (pw_i sd), some (.long (Int64.ofInt sd)), none, some (pw_i 1), none]) rfl rfl rfl rfl ?_
        have L91 : ∀ (n91 : Nat) (k91_3 : Int64) (k91_5 : Int) (k91_6 : Option Value) (gh91 : pm_H), pw_I gh91 → pw_E [149, 150, 151, 152, 153] h gh91 → 1 ≤ k91_5 → k91_5 ≤ 12 → (12 - k91_5).toNat = n91 → pw X d gh91 260 91 [some (.ref 141), some (pw_i l), some (pw_i sd), some (.long k91_3), none, some (pw_i k91_5), k91_6] [] (fun h' v => pw_I h' ∧ pw_E [149, 150, 151, 152, 153] h h' ∧ v = .inl none) := by
          intro n91
          induction n91 using Nat.strongRecOn with
          | ind n91 ih91 =>
            intro k91_3 k91_5 k91_6 gh91 I91 E91 k91_5a k91_5b hm91
            refine pw_ld E (pc' := 93) (st' := [pw_i k91_5]) rfl (fun _ => rfl) ?_
            refine pw_bip E (pc' := 95) rfl rfl (by decide) ?_
            refine pw_if2 E (pc' := 163) rfl (by decide) (by omega) (by omega) (by decide) (by decide) ?_ ?_
            · intro hc2
              change (12 : Int) ≤ k91_5 at hc2
              refine pw_vret E rfl ?_
              exact ⟨I91, E91, rfl⟩
            · intro hc3
              change ¬ ((12 : Int) ≤ k91_5) at hc3
              refine pw_ld E (pc' := 99) (st' := [pw_i 0]) rfl (fun _ => rfl) ?_
              refine pw_ist E (pc' := 101) (ls' := [some (.ref 141), some (pw_i l), some (pw_i sd), some (.long k91_3), none, some (pw_i k91_5), some (pw_i 0)]) rfl rfl rfl rfl ?_
              have L101 : ∀ (n101 : Nat) (k101_3 : Int64) (k101_6 : Int) (gh101 : pm_H), pw_I gh101 → pw_E [149, 150, 151, 152, 153] h gh101 → 0 ≤ k101_6 → k101_6 ≤ 24 → (24 - k101_6).toNat = n101 → pw X d gh101 260 101 [some (.ref 141), some (pw_i l), some (pw_i sd), some (.long k101_3), none, some (pw_i k91_5), some (pw_i k101_6)] [] (fun h' v => pw_I h' ∧ pw_E [149, 150, 151, 152, 153] h h' ∧ v = .inl none) := by
                intro n101
                induction n101 using Nat.strongRecOn with
                | ind n101 ih101 =>
                  intro k101_3 k101_6 gh101 I101 E101 k101_6a k101_6b hm101
                  refine pw_ld E (pc' := 103) (st' := [pw_i k101_6]) rfl (fun _ => rfl) ?_
                  refine pw_bip E (pc' := 105) rfl rfl (by decide) ?_
                  refine pw_if2 E (pc' := 157) rfl (by decide) (by omega) (by omega) (by decide) (by decide) ?_ ?_
                  · intro hc4
                    change (24 : Int) ≤ k101_6 at hc4
                    refine pw_inc E (pc' := 160) (ls' := [some (.ref 141), some (pw_i l), some (pw_i sd), some (.long k101_3), none, some (pw_i (k91_5 + 1)), some (pw_i k101_6)]) rfl rfl rfl rfl ?_
                    refine pw_goto E (pc' := 91) rfl (by decide) ?_
                    exact ih91 _ (by omega) (k101_3) (k91_5 + 1) (some (pw_i k101_6)) gh101 I101 E101 (by omega) (by omega)  rfl
                  · intro hc5
                    change ¬ ((24 : Int) ≤ k101_6) at hc5
                    refine pw_ld E (pc' := 109) (st' := [.ref 141]) rfl (fun _ => rfl) ?_
                    refine pw_getR (b := 147) I101 E (c := 125) (k := 10) (pc' := 112) rfl rfl rfl rfl rfl rfl rfl ?_
                    refine pw_ld E (pc' := 114) (st' := [pw_i k101_6, .ref 147]) rfl (fun _ => rfl) ?_
                    refine pw_ald2 I101 E (c := 131) (pc' := 115) rfl rfl rfl (by decide) rfl (by decide) (by omega) (by omega) rfl (fun hf6a hf6b => ?_)
                    refine pw_if E (pc' := 151) rfl (by decide) (by omega) (by omega) ?_ ?_
                    · intro hc7
                      change pw_g gh101 131 (k101_6.toNat) = (0 : Int) at hc7
                      refine pw_inc E (pc' := 154) (ls' := [some (.ref 141), some (pw_i l), some (pw_i sd), some (.long k101_3), none, some (pw_i k91_5), some (pw_i (k101_6 + 1))]) rfl rfl rfl rfl ?_
                      refine pw_goto E (pc' := 101) rfl (by decide) ?_
                      exact ih101 _ (by omega) (k101_3) (k101_6 + 1) gh101 I101 E101 (by omega) (by omega)  rfl
                    · intro hc8
                      change ¬ (pw_g gh101 131 (k101_6.toNat) = (0 : Int)) at hc8
                      refine pw_ld E (pc' := 119) (st' := [.long k101_3]) rfl (fun _ => rfl) ?_
                      refine pw_ld E (pc' := 122) (st' := [.long (Int64.ofInt 1103515245), .long k101_3]) rfl (fun _ => rfl) ?_
                      refine pw_ld E (pc' := 123) (st' := [.long (k101_3 * (Int64.ofInt 1103515245))]) rfl (fun _ => rfl) ?_
                      refine pw_ld E (pc' := 126) (st' := [.long (Int64.ofInt 12345), .long (k101_3 * (Int64.ofInt 1103515245))]) rfl (fun _ => rfl) ?_
                      refine pw_ld E (pc' := 127) (st' := [.long ((k101_3 * (Int64.ofInt 1103515245)) + (Int64.ofInt 12345))]) rfl (fun _ => rfl) ?_
                      refine pw_ld E (pc' := 130) (st' := [.long (Int64.ofInt 2147483648), .long ((k101_3 * (Int64.ofInt 1103515245)) + (Int64.ofInt 12345))]) rfl (fun _ => rfl) ?_
                      refine pw_ldivA E (pc' := 131) rfl rfl rfl (pw_l0 (by omega) (by omega) (by omega)) ?_
                      refine pw_lstn E (pc' := 132) (ls' := [some (.ref 141), some (pw_i l), some (pw_i sd), some (.long (((k101_3 * (Int64.ofInt 1103515245)) + (Int64.ofInt 12345)) - ((k101_3 * (Int64.ofInt 1103515245)) + (Int64.ofInt 12345)) / (Int64.ofInt 2147483648) * (Int64.ofInt 2147483648))), none, some (pw_i k91_5), some (pw_i k101_6)]) rfl rfl rfl rfl ?_
                      refine pw_ld E (pc' := 133) (st' := [.ref 141]) rfl (fun _ => rfl) ?_
                      refine pw_ld E (pc' := 134) (st' := [pw_i l, .ref 141]) rfl (fun _ => rfl) ?_
                      refine pw_ld E (pc' := 136) (st' := [pw_i k101_6, pw_i l, .ref 141]) rfl (fun _ => rfl) ?_
                      refine pw_ld E (pc' := 138) (st' := [pw_i k91_5, pw_i k101_6, pw_i l, .ref 141]) rfl (fun _ => rfl) ?_
                      refine pw_ld E (pc' := 139) (st' := [.long (((k101_3 * (Int64.ofInt 1103515245)) + (Int64.ofInt 12345)) - ((k101_3 * (Int64.ofInt 1103515245)) + (Int64.ofInt 12345)) / (Int64.ofInt 2147483648) * (Int64.ofInt 2147483648)), pw_i k91_5, pw_i k101_6, pw_i l, .ref 141]) rfl (fun _ => rfl) ?_
                      refine pw_ld E (pc' := 142) (st' := [.long (Int64.ofInt 65536), .long (((k101_3 * (Int64.ofInt 1103515245)) + (Int64.ofInt 12345)) - ((k101_3 * (Int64.ofInt 1103515245)) + (Int64.ofInt 12345)) / (Int64.ofInt 2147483648) * (Int64.ofInt 2147483648)), pw_i k91_5, pw_i k101_6, pw_i l, .ref 141]) rfl (fun _ => rfl) ?_
                      refine pw_ldivA E (pc' := 143) rfl rfl rfl (pw_l0 (by omega) (by omega) (by omega)) ?_
                      refine pw_ld E (pc' := 146) (st' := [.long (Int64.ofInt 10), .long ((((k101_3 * (Int64.ofInt 1103515245)) + (Int64.ofInt 12345)) - ((k101_3 * (Int64.ofInt 1103515245)) + (Int64.ofInt 12345)) / (Int64.ofInt 2147483648) * (Int64.ofInt 2147483648)) / (Int64.ofInt 65536)), pw_i k91_5, pw_i k101_6, pw_i l, .ref 141]) rfl (fun _ => rfl) ?_
                      refine pw_ldivA E (pc' := 147) rfl rfl rfl (pw_l0 (by omega) (by omega) (by omega)) ?_
                      refine pw_l2i E (pc' := 148) rfl rfl ?_
                      intro x12 hx12a hx12b
                      obtain ⟨f13l, f13h, -⟩ := pw_obj (c := 125) I101 rfl
                      refine pw_call (m' := 261) (As := [.ref 141, pw_i l, pw_i k101_6, pw_i k91_5, pw_i x12]) (rest := []) (ls'' := [some (.ref 141), some (pw_i l), some (pw_i k101_6), some (pw_i k91_5), some (pw_i x12), none, none, none, none]) (Nat.le_trans (by decide) hd) E rfl (fun _ => pw_iV rfl rfl rfl rfl (pw_cellI f13h rfl)) (rfl : pm_ent 261 = some (5, 9, 12, 4, pmc_261)) rfl rfl (cm_261 (pw_dp hd (by decide)) I101 (l) (by omega) (by omega) (k101_6) (by omega) (by omega) (k91_5) (by omega) (by omega) (x12) (by omega) (by omega) (pw_KE I E101 hp0 rfl)) ?_
                      rintro h14 v15 ⟨h14I, h14E, rfl⟩
                      refine ⟨_, rfl, ?_⟩
                      have h14F := E101.tr (h14E.wk (W' := [149, 150, 151, 152, 153]) (by first | rfl | simp))
                      show pw X d h14 260 151 [some (.ref 141), some (pw_i l), some (pw_i sd), some (.long (((k101_3 * (Int64.ofInt 1103515245)) + (Int64.ofInt 12345)) - ((k101_3 * (Int64.ofInt 1103515245)) + (Int64.ofInt 12345)) / (Int64.ofInt 2147483648) * (Int64.ofInt 2147483648))), none, some (pw_i k91_5), some (pw_i k101_6)] [] _
                      refine pw_inc E (pc' := 154) (ls' := [some (.ref 141), some (pw_i l), some (pw_i sd), some (.long (((k101_3 * (Int64.ofInt 1103515245)) + (Int64.ofInt 12345)) - ((k101_3 * (Int64.ofInt 1103515245)) + (Int64.ofInt 12345)) / (Int64.ofInt 2147483648) * (Int64.ofInt 2147483648))), none, some (pw_i k91_5), some (pw_i (k101_6 + 1))]) rfl rfl rfl rfl ?_
                      refine pw_goto E (pc' := 101) rfl (by decide) ?_
                      exact ih101 _ (by omega) (((k101_3 * (Int64.ofInt 1103515245)) + (Int64.ofInt 12345)) - ((k101_3 * (Int64.ofInt 1103515245)) + (Int64.ofInt 12345)) / (Int64.ofInt 2147483648) * (Int64.ofInt 2147483648)) (k101_6 + 1) h14 h14I h14F (by omega) (by omega)  rfl
              exact L101 _ (k91_3) (0) gh91 I91 E91 (by omega) (by omega)  rfl
        exact L91 _ (Int64.ofInt sd) (1) (none) gh6 I6 E6 (by omega) (by omega)  rfl
      · intro hc16
        change ¬ ((24 : Int) ≤ k6_5) at hc16
        refine pw_ld E (pc' := 14) (st' := [.ref 141]) rfl (fun _ => rfl) ?_
        refine pw_getR (b := 167) I6 E (c := 125) (k := 38) (pc' := 17) rfl rfl rfl rfl rfl rfl rfl ?_
        refine pw_bip E (pc' := 19) rfl rfl (by decide) ?_
        refine pw_ld E (pc' := 21) (st' := [pw_i k6_5, pw_i 12, .ref 167]) rfl (fun _ => rfl) ?_
        refine pw_mul E (pc' := 22) rfl rfl ?_
        refine pw_ld E (pc' := 23) (st' := [.ref 141, pw_i (12 * k6_5), .ref 167]) rfl (fun _ => rfl) ?_
        refine pw_getR (b := 155) I6 E (c := 125) (k := 19) (pc' := 26) rfl rfl rfl rfl rfl rfl rfl ?_
        refine pw_bip E (pc' := 28) rfl rfl (by decide) ?_
        refine pw_ld E (pc' := 30) (st' := [pw_i k6_5, pw_i 12, .ref 155, pw_i (12 * k6_5), .ref 167]) rfl (fun _ => rfl) ?_
        refine pw_mul E (pc' := 31) rfl rfl ?_
        refine pw_ald2 I6 E (c := 139) (pc' := 32) rfl rfl rfl (by decide) rfl (by decide) (by omega) (by omega) rfl (fun hf17a hf17b => ?_)
        refine pw_ast0 I6 E (c := 151) (pc' := 33) rfl rfl rfl (by decide) rfl (by decide) (by omega) (by omega) rfl (by omega) (by omega) (by omega) (by omega) rfl ?_
        intro h18I h18E
        generalize h18w : pw_w gh6 151 ((12 * k6_5).toNat) (pw_i (pw_g gh6 139 ((12 * k6_5).toNat))) = h18 at h18I h18E ⊢
        have h18F := E6.tr (h18E.wk (W' := [149, 150, 151, 152, 153]) (by first | rfl | simp))
        refine pw_ld E (pc' := 34) (st' := [.ref 141]) rfl (fun _ => rfl) ?_
        refine pw_getR (b := 168) h18I E (c := 125) (k := 39) (pc' := 37) rfl rfl rfl rfl rfl rfl rfl ?_
        refine pw_bip E (pc' := 39) rfl rfl (by decide) ?_
        refine pw_ld E (pc' := 41) (st' := [pw_i k6_5, pw_i 12, .ref 168]) rfl (fun _ => rfl) ?_
        refine pw_mul E (pc' := 42) rfl rfl ?_
        refine pw_ld E (pc' := 43) (st' := [.ref 141, pw_i (12 * k6_5), .ref 168]) rfl (fun _ => rfl) ?_
        refine pw_getR (b := 156) h18I E (c := 125) (k := 20) (pc' := 46) rfl rfl rfl rfl rfl rfl rfl ?_
        refine pw_bip E (pc' := 48) rfl rfl (by decide) ?_
        refine pw_ld E (pc' := 50) (st' := [pw_i k6_5, pw_i 12, .ref 156, pw_i (12 * k6_5), .ref 168]) rfl (fun _ => rfl) ?_
        refine pw_mul E (pc' := 51) rfl rfl ?_
        refine pw_ald2 h18I E (c := 140) (pc' := 52) rfl rfl rfl (by decide) rfl (by decide) (by omega) (by omega) rfl (fun hf19a hf19b => ?_)
        refine pw_ast0 h18I E (c := 152) (pc' := 53) rfl rfl rfl (by decide) rfl (by decide) (by omega) (by omega) rfl (by omega) (by omega) (by omega) (by omega) rfl ?_
        intro h20I h20E
        generalize h20w : pw_w h18 152 ((12 * k6_5).toNat) (pw_i (pw_g h18 140 ((12 * k6_5).toNat))) = h20 at h20I h20E ⊢
        have h20F := h18F.tr (h20E.wk (W' := [149, 150, 151, 152, 153]) (by first | rfl | simp))
        refine pw_ld E (pc' := 54) (st' := [.ref 141]) rfl (fun _ => rfl) ?_
        refine pw_getR (b := 169) h20I E (c := 125) (k := 40) (pc' := 57) rfl rfl rfl rfl rfl rfl rfl ?_
        refine pw_bip E (pc' := 59) rfl rfl (by decide) ?_
        refine pw_ld E (pc' := 61) (st' := [pw_i k6_5, pw_i 12, .ref 169]) rfl (fun _ => rfl) ?_
        refine pw_mul E (pc' := 62) rfl rfl ?_
        refine pw_ld E (pc' := 63) (st' := [.ref 141, pw_i (12 * k6_5), .ref 169]) rfl (fun _ => rfl) ?_
        refine pw_getR (b := 154) h20I E (c := 125) (k := 18) (pc' := 66) rfl rfl rfl rfl rfl rfl rfl ?_
        refine pw_bip E (pc' := 68) rfl rfl (by decide) ?_
        refine pw_ld E (pc' := 70) (st' := [pw_i k6_5, pw_i 12, .ref 154, pw_i (12 * k6_5), .ref 169]) rfl (fun _ => rfl) ?_
        refine pw_mul E (pc' := 71) rfl rfl ?_
        refine pw_ald2 h20I E (c := 138) (pc' := 72) rfl rfl rfl (by decide) rfl (by decide) (by omega) (by omega) rfl (fun hf21a hf21b => ?_)
        refine pw_ld E (pc' := 73) (st' := [pw_i 2, pw_i (pw_g h20 138 ((12 * k6_5).toNat)), pw_i (12 * k6_5), .ref 169]) rfl (fun _ => rfl) ?_
        refine pw_if2 E (pc' := 80) rfl (by decide) (by omega) (by omega) (by decide) (by decide) ?_ ?_
        · intro hc22
          change pw_g h20 138 ((12 * k6_5).toNat) ≠ (2 : Int) at hc22
          refine pw_ld E (pc' := 81) (st' := [pw_i 0, pw_i (12 * k6_5), .ref 169]) rfl (fun _ => rfl) ?_
          refine pw_ast0 h20I E (c := 153) (pc' := 82) rfl rfl rfl (by decide) rfl (by decide) (by omega) (by omega) (pw_b1 (by omega) (by omega)) (by omega) (by omega) (by omega) (by omega) rfl ?_
          intro h23I h23E
          generalize h23w : pw_w h20 153 ((12 * k6_5).toNat) (pw_i 0) = h23 at h23I h23E ⊢
          have h23F := h20F.tr (h23E.wk (W' := [149, 150, 151, 152, 153]) (by first | rfl | simp))
          refine pw_inc E (pc' := 85) (ls' := [some (.ref 141), some (pw_i l), some (pw_i sd), some (.long (Int64.ofInt sd)), none, some (pw_i (k6_5 + 1)), none]) rfl rfl rfl rfl ?_
          refine pw_goto E (pc' := 6) rfl (by decide) ?_
          exact ih6 _ (by omega) (k6_5 + 1) h23 h23I h23F (by omega) (by omega)  rfl
        · intro hc24
          change ¬ (pw_g h20 138 ((12 * k6_5).toNat) ≠ (2 : Int)) at hc24
          refine pw_ld E (pc' := 77) (st' := [pw_i 1, pw_i (12 * k6_5), .ref 169]) rfl (fun _ => rfl) ?_
          refine pw_goto E (pc' := 81) rfl (by decide) ?_
          refine pw_ast0 h20I E (c := 153) (pc' := 82) rfl rfl rfl (by decide) rfl (by decide) (by omega) (by omega) (pw_b1 (by omega) (by omega)) (by omega) (by omega) (by omega) (by omega) rfl ?_
          intro h25I h25E
          generalize h25w : pw_w h20 153 ((12 * k6_5).toNat) (pw_i 1) = h25 at h25I h25E ⊢
          have h25F := h20F.tr (h25E.wk (W' := [149, 150, 151, 152, 153]) (by first | rfl | simp))
          refine pw_inc E (pc' := 85) (ls' := [some (.ref 141), some (pw_i l), some (pw_i sd), some (.long (Int64.ofInt sd)), none, some (pw_i (k6_5 + 1)), none]) rfl rfl rfl rfl ?_
          refine pw_goto E (pc' := 6) rfl (by decide) ?_
          exact ih6 _ (by omega) (k6_5 + 1) h25 h25I h25F (by omega) (by omega)  rfl
  exact L6 _ (0) h I E0 (by omega) (by omega)  rfl
