/-! the Readers: the word of a line, a numeral (printed by wip/tool/reader6.py) -/
set_option maxHeartbeats 4000000 in
theorem cm_110_24 {X : List (Nat × List Value)} {d : Nat} {h : pm_H} (hd : 1 ≤ d) (I : pw_I h)  : pw X d h 110 0 [some (.ref 40)] [] (fun h' v => h = h' ∧ ∃ a : Int, v = .inl (some (pw_i a)) ∧ (-2147483648) ≤ a ∧ a ≤ 2147483647 ∧ (a = pw_g h 24 5)) := by
  have E : pm_ent 110 = some (1, 1, 9, 0, pmc_110) := rfl
  refine pw_ld E (pc' := 1) (st' := [.ref 40]) rfl (fun _ => rfl) ?_
  refine pw_getI I E (c := 24) (k := 5) (pc' := 4) rfl rfl rfl rfl rfl rfl (fun hf1a hf1b hf1c hf1d => ?_)
  refine pw_iret E rfl ?_
  exact ⟨rfl, ⟨_, rfl, by omega, by omega, by omega⟩⟩
set_option maxHeartbeats 4000000 in
theorem cm_70_30 {X : List (Nat × List Value)} {d : Nat} {h : pm_H} (hd : 1 ≤ d) (I : pw_I h) (li : Int) (hli1 : 0 ≤ li) (hli2 : li ≤ 3) : pw X d h 70 0 [some (.ref 46), some (pw_i li)] [] (fun h' v => pw_I h' ∧ pw_E [31, 32, 33] h h' ∧ v = .inl none) := by
  have E : pm_ent 70 = some (2, 2, 7, 4, pmc_70) := rfl
  have E0 : pw_E [31, 32, 33] h h := pw_E.rf _ _
  refine pw_ld E (pc' := 1) (st' := [.ref 46]) rfl (fun _ => rfl) ?_
  refine pw_getR (b := 47) I E (c := 30) (k := 2) (pc' := 4) rfl rfl rfl rfl rfl rfl rfl ?_
  refine pw_ld E (pc' := 5) (st' := [pw_i li, .ref 47]) rfl (fun _ => rfl) ?_
  refine pw_ld E (pc' := 6) (st' := [pw_i 1, pw_i li, .ref 47]) rfl (fun _ => rfl) ?_
  refine pw_ast0 I E (c := 31) (pc' := 7) rfl rfl rfl (by decide) rfl (by decide) (by omega) (by omega) (pw_b1 (by omega) (by omega)) (by omega) (by omega) (by omega) (by omega) rfl ?_
  intro h1I h1E
  generalize h1w : pw_w h 31 (li.toNat) (pw_i 1) = h1 at h1I h1E ⊢
  have h1F := E0.tr (h1E.wk (W' := [31, 32, 33]) (by first | rfl | simp))
  refine pw_ld E (pc' := 8) (st' := [.ref 46]) rfl (fun _ => rfl) ?_
  refine pw_getR (b := 48) h1I E (c := 30) (k := 3) (pc' := 11) rfl rfl rfl rfl rfl rfl rfl ?_
  refine pw_ld E (pc' := 12) (st' := [pw_i li, .ref 48]) rfl (fun _ => rfl) ?_
  refine pw_ld E (pc' := 13) (st' := [.ref 46, pw_i li, .ref 48]) rfl (fun _ => rfl) ?_
  refine pw_getI h1I E (c := 30) (k := 1) (pc' := 16) rfl rfl rfl rfl rfl rfl (fun hf2a hf2b hf2c hf2d => ?_)
  refine pw_ast0 h1I E (c := 32) (pc' := 17) rfl rfl rfl (by decide) rfl (by decide) (by omega) (by omega) rfl (by omega) (by omega) (by omega) (by omega) rfl ?_
  intro h3I h3E
  generalize h3w : pw_w h1 32 (li.toNat) (pw_i (pw_g h1 30 1)) = h3 at h3I h3E ⊢
  have h3F := h1F.tr (h3E.wk (W' := [31, 32, 33]) (by first | rfl | simp))
  refine pw_ld E (pc' := 18) (st' := [.ref 46]) rfl (fun _ => rfl) ?_
  refine pw_getR (b := 49) h3I E (c := 30) (k := 4) (pc' := 21) rfl rfl rfl rfl rfl rfl rfl ?_
  refine pw_ld E (pc' := 22) (st' := [pw_i li, .ref 49]) rfl (fun _ => rfl) ?_
  refine pw_ld E (pc' := 23) (st' := [.ref 46, pw_i li, .ref 49]) rfl (fun _ => rfl) ?_
  have he5 : pw_g h3 30 1 = pw_g h1 30 1 := by rw [← h3w]; exact pw_g_ne (by omega)
  refine pw_getI h3I E (c := 30) (k := 1) (pc' := 26) rfl rfl rfl rfl rfl rfl (fun hf4a hf4b hf4c hf4d => ?_)
  refine pw_ast0 h3I E (c := 33) (pc' := 27) rfl rfl rfl (by decide) rfl (by decide) (by omega) (by omega) rfl (by omega) (by omega) (by omega) (by omega) rfl ?_
  intro h6I h6E
  generalize h6w : pw_w h3 33 (li.toNat) (pw_i (pw_g h3 30 1)) = h6 at h6I h6E ⊢
  have h6F := h3F.tr (h6E.wk (W' := [31, 32, 33]) (by first | rfl | simp))
  refine pw_vret E rfl ?_
  exact ⟨h6I, h6F, rfl⟩
set_option maxHeartbeats 4000000 in
theorem cm_68_30 {X : List (Nat × List Value)} {d : Nat} {h : pm_H} (hd : 1 ≤ d) (I : pw_I h)  : pw X d h 68 0 [some (.ref 46), none] [] (fun h' v => pw_I h' ∧ pw_E [30, 31] h h' ∧ (pw_g h' 30 1 = 0) ∧ (v = .inl none)) := by
  have E : pm_ent 68 = some (1, 2, 7, 4, pmc_68) := rfl
  have E0 : pw_E [30, 31] h h := pw_E.rf _ _
  refine pw_ld E (pc' := 1) (st' := [.ref 46]) rfl (fun _ => rfl) ?_
  refine pw_ld E (pc' := 2) (st' := [pw_i 0, .ref 46]) rfl (fun _ => rfl) ?_
  refine pw_putI I E (c := 30) (k := 1) (pc' := 5) rfl rfl rfl rfl (by omega) (by omega) (by omega) (by omega) rfl rfl ?_
  intro h1I h1E
  generalize h1w : pw_w h 30 1 (pw_i 0) = h1 at h1I h1E ⊢
  have h1F := E0.tr (h1E.wk (W' := [30, 31]) (by first | rfl | simp))
  refine pw_ld E (pc' := 6) (st' := [pw_i 0]) rfl (fun _ => rfl) ?_
  refine pw_istn E (pc' := 7) (ls' := [some (.ref 46), some (pw_i 0)]) rfl rfl rfl rfl ?_
  have L7 : ∀ (n7 : Nat) (k7_1 : Int) (h7 : pm_H), pw_I h7 → pw_E [30, 31] h h7 → 0 ≤ k7_1 → k7_1 ≤ 4 → pw_g h7 30 1 = 0 → (4 - k7_1).toNat = n7 → pw X d h7 68 7 [some (.ref 46), some (pw_i k7_1)] [] (fun h' v => pw_I h' ∧ pw_E [30, 31] h h' ∧ (pw_g h' 30 1 = 0) ∧ (v = .inl none)) := by
    intro n7
    induction n7 using Nat.strongRecOn with
    | ind n7 ih7 =>
      intro k7_1 h7 I7 E7 k7_1a k7_1b hx7_0 hm7
      refine pw_ld E (pc' := 8) (st' := [pw_i k7_1]) rfl (fun _ => rfl) ?_
      refine pw_ld E (pc' := 9) (st' := [pw_i 4, pw_i k7_1]) rfl (fun _ => rfl) ?_
      refine pw_if2 E (pc' := 25) rfl (by decide) (by omega) (by omega) (by decide) (by decide) ?_ ?_
      · intro hc2
        have hc2 : (4 : Int) ≤ k7_1 := hc2
        refine pw_vret E rfl ?_
        exact ⟨I7, E7, ⟨by omega, rfl⟩⟩
      · intro hc3
        have hc3 : ¬ ((4 : Int) ≤ k7_1) := hc3
        refine pw_ld E (pc' := 13) (st' := [.ref 46]) rfl (fun _ => rfl) ?_
        refine pw_getR (b := 47) I7 E (c := 30) (k := 2) (pc' := 16) rfl rfl rfl rfl rfl rfl rfl ?_
        refine pw_ld E (pc' := 17) (st' := [pw_i k7_1, .ref 47]) rfl (fun _ => rfl) ?_
        refine pw_ld E (pc' := 18) (st' := [pw_i 0, pw_i k7_1, .ref 47]) rfl (fun _ => rfl) ?_
        refine pw_ast0 I7 E (c := 31) (pc' := 19) rfl rfl rfl (by decide) rfl (by decide) (by omega) (by omega) (pw_b1 (by omega) (by omega)) (by omega) (by omega) (by omega) (by omega) rfl ?_
        intro h4I h4E
        generalize h4w : pw_w h7 31 (k7_1.toNat) (pw_i 0) = h4 at h4I h4E ⊢
        have h4F := E7.tr (h4E.wk (W' := [30, 31]) (by first | rfl | simp))
        refine pw_inc E (pc' := 22) (ls' := [some (.ref 46), some (pw_i (k7_1 + 1))]) rfl rfl rfl rfl ?_
        refine pw_goto E (pc' := 7) rfl (by decide) ?_
        have he5 : pw_g h4 30 1 = pw_g h7 30 1 := by rw [← h4w]; exact pw_g_ne (by omega)
        exact ih7 _ (by omega) (k7_1 + 1) h4 h4I h4F (by omega) (by omega) (by omega) rfl
  have he6 : pw_g h1 30 1 = 0 := by rw [← h1w]; exact pw_g_eq (c := 30) (k := 1) I rfl rfl (by omega) (by omega)
  exact L7 _ (0) h1 h1I h1F (by omega) (by omega) (by omega) rfl
set_option maxHeartbeats 4000000 in
theorem cm_46_26 {X : List (Nat × List Value)} {d : Nat} {h : pm_H} (hd : 2 ≤ d) (I : pw_I h) (hX : pw_Xk X)  : pw X d h 46 0 [some (.ref 42), some (.ref 40), some (.ref 46), none] [] (fun h' v => pw_I h' ∧ pw_E [26, 31, 32, 33] h h' ∧ ((pw_g h' 26 7 = pw_g h 26 7 ∨ (pw_g h' 26 4 = 0 ∧ pw_g h' 26 5 = 0 ∧ pw_g h' 26 6 = 0))) ∧ (∃ a : Int, v = .inl (some (pw_i a)) ∧ 0 ≤ a ∧ a ≤ 3)) := by
  have E : pm_ent 46 = some (3, 4, 5, 0, pmc_46) := rfl
  have E0 : pw_E [26, 31, 32, 33] h h := pw_E.rf _ _
  refine pw_ld E (pc' := 1) (st' := [.ref 40]) rfl (fun _ => rfl) ?_
  obtain ⟨f1l, f1h, -⟩ := pw_obj (c := 24) I rfl
  refine pw_call (m' := 107) (As := [.ref 40]) (rest := []) (ls'' := [some (.ref 40)]) (by omega) E rfl (fun _ => pw_iV rfl rfl rfl rfl (pw_cellI f1h rfl)) (rfl : pm_ent 107 = some (1, 1, 9, 0, pmc_107)) rfl rfl (cm_107_24 (by omega) I ) ?_
  rintro u3 v2 ⟨rfl, x4, rfl, hx4a, hx4b, hx4r⟩
  refine ⟨_, rfl, ?_⟩
  show pw X d h 46 4 [some (.ref 42), some (.ref 40), some (.ref 46), none] [pw_i x4] _
  have hx4r : x4 = pw_g h 24 4 := hx4r
  refine pw_ld E (pc' := 5) (st' := [pw_i 4, pw_i x4]) rfl (fun _ => rfl) ?_
  refine pw_if2 E (pc' := 10) rfl (by decide) (by omega) (by omega) (by decide) (by decide) ?_ ?_
  · intro hc5
    have hc5 : x4 ≠ (4 : Int) := hc5
    refine pw_ld E (pc' := 11) (st' := [.ref 40]) rfl (fun _ => rfl) ?_
    refine pw_ld E (pc' := 12) (st' := [.ref 42, .ref 40]) rfl (fun _ => rfl) ?_
    refine pw_getR (b := 4) I E (c := 26) (k := 0) (pc' := 15) rfl rfl rfl rfl rfl rfl rfl ?_
    obtain ⟨f6l, f6h, -⟩ := pw_obj (c := 24) I rfl
    refine pw_call (m' := 108) (As := [.ref 40, .ref 4]) (rest := []) (ls'' := [some (.ref 40), some (.ref 4), none, none, none, none, none]) (by omega) E rfl (fun _ => pw_iV rfl rfl rfl rfl (pw_cellI f6h rfl)) (rfl : pm_ent 108 = some (2, 7, 9, 0, pmc_108)) rfl rfl (cm_108_24 (by omega) I hX 4 (by omega) (by omega)) ?_
    rintro u8 v7 ⟨rfl, x9, rfl, hx9a, hx9b, hx9r⟩
    refine ⟨_, rfl, ?_⟩
    show pw X d h 46 18 [some (.ref 42), some (.ref 40), some (.ref 46), none] [pw_i x9] _
    have hx9r : pw_g h 24 4 = 1 ∨ x9 = -1 := hx9r
    refine pw_istn E (pc' := 19) (ls' := [some (.ref 42), some (.ref 40), some (.ref 46), some (pw_i x9)]) rfl rfl rfl rfl ?_
    refine pw_ld E (pc' := 20) (st' := [pw_i x9]) rfl (fun _ => rfl) ?_
    refine pw_if E (pc' := 32) rfl (by decide) (by omega) (by omega) ?_ ?_
    · intro hc10
      have hc10 : x9 < (0 : Int) := hc10
      refine pw_ld E (pc' := 33) (st' := [pw_i 1]) rfl (fun _ => rfl) ?_
      refine pw_iret E rfl ?_
      exact ⟨I, E0, ⟨by omega, ⟨_, rfl, by omega, by omega⟩⟩⟩
    · intro hc11
      have hc11 : ¬ (x9 < (0 : Int)) := hc11
      refine pw_ld E (pc' := 24) (st' := [pw_i x9]) rfl (fun _ => rfl) ?_
      refine pw_ld E (pc' := 25) (st' := [.ref 42, pw_i x9]) rfl (fun _ => rfl) ?_
      refine pw_getR (b := 1) I E (c := 26) (k := 2) (pc' := 28) rfl rfl rfl rfl rfl rfl rfl ?_
      obtain ⟨y12l, y12x, y12n, y12r⟩ := hX.1
      refine pw_xlen E (pc' := 29) rfl y12x (by decide) y12n rfl ?_
      refine pw_if2 E (pc' := 34) rfl (by decide) (by omega) (by omega) (by decide) (by decide) ?_ ?_
      · intro hc13
        have hc13 : x9 < (4 : Nat) := hc13
        refine pw_ld E (pc' := 35) (st' := [.ref 46]) rfl (fun _ => rfl) ?_
        refine pw_ld E (pc' := 36) (st' := [pw_i x9, .ref 46]) rfl (fun _ => rfl) ?_
        obtain ⟨f14l, f14h, -⟩ := pw_obj (c := 30) I rfl
        refine pw_call (m' := 69) (As := [.ref 46, pw_i x9]) (rest := []) (ls'' := [some (.ref 46), some (pw_i x9)]) (by omega) E rfl (fun _ => pw_iV rfl rfl rfl rfl (pw_cellI f14h rfl)) (rfl : pm_ent 69 = some (2, 2, 7, 1, pmc_69)) rfl rfl (cm_69_30 (by omega) I (x9) (by omega) (by omega)) ?_
        rintro u16 v15 ⟨rfl, x17, rfl, hx17a, hx17b⟩
        refine ⟨_, rfl, ?_⟩
        show pw X d h 46 39 [some (.ref 42), some (.ref 40), some (.ref 46), some (pw_i x9)] [pw_i x17] _
        refine pw_if E (pc' := 44) rfl (by decide) (by omega) (by omega) ?_ ?_
        · intro hc18
          have hc18 : x17 = (0 : Int) := hc18
          refine pw_ld E (pc' := 45) (st' := [.ref 42]) rfl (fun _ => rfl) ?_
          refine pw_ld E (pc' := 46) (st' := [pw_i x9, .ref 42]) rfl (fun _ => rfl) ?_
          refine pw_putI I E (c := 26) (k := 8) (pc' := 49) rfl rfl rfl rfl (by omega) (by omega) (by omega) (by omega) rfl rfl ?_
          intro h19I h19E
          generalize h19w : pw_w h 26 8 (pw_i x9) = h19 at h19I h19E ⊢
          have h19F := E0.tr (h19E.wk (W' := [26, 31, 32, 33]) (by first | rfl | simp))
          refine pw_ld E (pc' := 50) (st' := [.ref 46]) rfl (fun _ => rfl) ?_
          refine pw_ld E (pc' := 51) (st' := [pw_i x9, .ref 46]) rfl (fun _ => rfl) ?_
          obtain ⟨f20l, f20h, -⟩ := pw_obj (c := 30) h19I rfl
          refine pw_call (m' := 70) (As := [.ref 46, pw_i x9]) (rest := []) (ls'' := [some (.ref 46), some (pw_i x9)]) (by omega) E rfl (fun _ => pw_iV rfl rfl rfl rfl (pw_cellI f20h rfl)) (rfl : pm_ent 70 = some (2, 2, 7, 4, pmc_70)) rfl rfl (cm_70_30 (by omega) h19I (x9) (by omega) (by omega)) ?_
          rintro h21 v22 ⟨h21I, h21E, rfl⟩
          refine ⟨_, rfl, ?_⟩
          have h21F := h19F.tr (h21E.wk (W' := [26, 31, 32, 33]) (by first | rfl | simp))
          show pw X d h21 46 54 [some (.ref 42), some (.ref 40), some (.ref 46), some (pw_i x9)] [] _
          refine pw_ld E (pc' := 55) (st' := [.ref 42]) rfl (fun _ => rfl) ?_
          refine pw_ld E (pc' := 56) (st' := [pw_i 0, .ref 42]) rfl (fun _ => rfl) ?_
          refine pw_putI h21I E (c := 26) (k := 4) (pc' := 59) rfl rfl rfl rfl (by omega) (by omega) (by omega) (by omega) rfl rfl ?_
          intro h23I h23E
          generalize h23w : pw_w h21 26 4 (pw_i 0) = h23 at h23I h23E ⊢
          have h23F := h21F.tr (h23E.wk (W' := [26, 31, 32, 33]) (by first | rfl | simp))
          refine pw_ld E (pc' := 60) (st' := [.ref 42]) rfl (fun _ => rfl) ?_
          refine pw_ld E (pc' := 61) (st' := [pw_i 0, .ref 42]) rfl (fun _ => rfl) ?_
          refine pw_putI h23I E (c := 26) (k := 5) (pc' := 64) rfl rfl rfl rfl (by omega) (by omega) (by omega) (by omega) rfl rfl ?_
          intro h24I h24E
          generalize h24w : pw_w h23 26 5 (pw_i 0) = h24 at h24I h24E ⊢
          have h24F := h23F.tr (h24E.wk (W' := [26, 31, 32, 33]) (by first | rfl | simp))
          refine pw_ld E (pc' := 65) (st' := [.ref 42]) rfl (fun _ => rfl) ?_
          refine pw_ld E (pc' := 66) (st' := [pw_i 0, .ref 42]) rfl (fun _ => rfl) ?_
          refine pw_putI h24I E (c := 26) (k := 6) (pc' := 69) rfl rfl rfl rfl (by omega) (by omega) (by omega) (by omega) rfl rfl ?_
          intro h25I h25E
          generalize h25w : pw_w h24 26 6 (pw_i 0) = h25 at h25I h25E ⊢
          have h25F := h24F.tr (h25E.wk (W' := [26, 31, 32, 33]) (by first | rfl | simp))
          refine pw_ld E (pc' := 70) (st' := [.ref 42]) rfl (fun _ => rfl) ?_
          refine pw_getR (b := 1) h25I E (c := 26) (k := 2) (pc' := 73) rfl rfl rfl rfl rfl rfl rfl ?_
          refine pw_ld E (pc' := 74) (st' := [pw_i x9, .ref 1]) rfl (fun _ => rfl) ?_
          obtain ⟨y26l, y26x, y26n, y26r⟩ := hX.1
          refine pw_xald E (pc' := 75) rfl y26x (by decide) y26n y26r (by decide) (by omega) (by omega) rfl (fun x27 hx27a hx27b => ?_)
          refine pw_ld E (pc' := 76) (st' := [pw_i ((-1)), pw_i x27]) rfl (fun _ => rfl) ?_
          refine pw_if2 E (pc' := 87) rfl (by decide) (by omega) (by omega) (by decide) (by decide) ?_ ?_
          · intro hc28
            have hc28 : x27 ≠ ((-1) : Int) := hc28
            refine pw_ld E (pc' := 88) (st' := [.ref 42]) rfl (fun _ => rfl) ?_
            refine pw_ld E (pc' := 89) (st' := [.ref 42, .ref 42]) rfl (fun _ => rfl) ?_
            refine pw_getR (b := 1) h25I E (c := 26) (k := 2) (pc' := 92) rfl rfl rfl rfl rfl rfl rfl ?_
            refine pw_ld E (pc' := 93) (st' := [pw_i x9, .ref 1, .ref 42]) rfl (fun _ => rfl) ?_
            obtain ⟨y29l, y29x, y29n, y29r⟩ := hX.1
            refine pw_xald E (pc' := 94) rfl y29x (by decide) y29n y29r (by decide) (by omega) (by omega) rfl (fun x30 hx30a hx30b => ?_)
            refine pw_bip E (pc' := 96) rfl rfl (by decide) ?_
            refine pw_if2 E (pc' := 103) rfl (by decide) (by omega) (by omega) (by decide) (by decide) ?_ ?_
            · intro hc31
              have hc31 : x30 ≠ ((-2) : Int) := hc31
              refine pw_ld E (pc' := 104) (st' := [pw_i 4, .ref 42]) rfl (fun _ => rfl) ?_
              refine pw_putI h25I E (c := 26) (k := 7) (pc' := 107) rfl rfl rfl rfl (by omega) (by omega) (by omega) (by omega) rfl rfl ?_
              intro h32I h32E
              generalize h32w : pw_w h25 26 7 (pw_i 4) = h32 at h32I h32E ⊢
              have h32F := h25F.tr (h32E.wk (W' := [26, 31, 32, 33]) (by first | rfl | simp))
              refine pw_ld E (pc' := 108) (st' := [pw_i 0]) rfl (fun _ => rfl) ?_
              have he33 : pw_g h32 26 4 = pw_g h25 26 4 := by rw [← h32w]; exact pw_g_ne (by omega)
              have he34 : pw_g h25 26 4 = pw_g h24 26 4 := by rw [← h25w]; exact pw_g_ne (by omega)
              have he35 : pw_g h24 26 4 = pw_g h23 26 4 := by rw [← h24w]; exact pw_g_ne (by omega)
              have he36 : pw_g h23 26 4 = 0 := by rw [← h23w]; exact pw_g_eq (c := 26) (k := 4) h21I rfl rfl (by omega) (by omega)
              have he37 : pw_g h32 26 5 = pw_g h25 26 5 := by rw [← h32w]; exact pw_g_ne (by omega)
              have he38 : pw_g h25 26 5 = pw_g h24 26 5 := by rw [← h25w]; exact pw_g_ne (by omega)
              have he39 : pw_g h24 26 5 = 0 := by rw [← h24w]; exact pw_g_eq (c := 26) (k := 5) h23I rfl rfl (by omega) (by omega)
              have he40 : pw_g h32 26 6 = pw_g h25 26 6 := by rw [← h32w]; exact pw_g_ne (by omega)
              have he41 : pw_g h25 26 6 = 0 := by rw [← h25w]; exact pw_g_eq (c := 26) (k := 6) h24I rfl rfl (by omega) (by omega)
              have he42 : pw_g h32 26 7 = 4 := by rw [← h32w]; exact pw_g_eq (c := 26) (k := 7) h25I rfl rfl (by omega) (by omega)
              refine pw_iret E rfl ?_
              exact ⟨h32I, h32F, ⟨by omega, ⟨_, rfl, by omega, by omega⟩⟩⟩
            · intro hc43
              have hc43 : ¬ (x30 ≠ ((-2) : Int)) := hc43
              refine pw_ld E (pc' := 100) (st' := [pw_i 1, .ref 42]) rfl (fun _ => rfl) ?_
              refine pw_goto E (pc' := 104) rfl (by decide) ?_
              refine pw_putI h25I E (c := 26) (k := 7) (pc' := 107) rfl rfl rfl rfl (by omega) (by omega) (by omega) (by omega) rfl rfl ?_
              intro h44I h44E
              generalize h44w : pw_w h25 26 7 (pw_i 1) = h44 at h44I h44E ⊢
              have h44F := h25F.tr (h44E.wk (W' := [26, 31, 32, 33]) (by first | rfl | simp))
              refine pw_ld E (pc' := 108) (st' := [pw_i 0]) rfl (fun _ => rfl) ?_
              have he45 : pw_g h44 26 4 = pw_g h25 26 4 := by rw [← h44w]; exact pw_g_ne (by omega)
              have he46 : pw_g h25 26 4 = pw_g h24 26 4 := by rw [← h25w]; exact pw_g_ne (by omega)
              have he47 : pw_g h24 26 4 = pw_g h23 26 4 := by rw [← h24w]; exact pw_g_ne (by omega)
              have he48 : pw_g h23 26 4 = 0 := by rw [← h23w]; exact pw_g_eq (c := 26) (k := 4) h21I rfl rfl (by omega) (by omega)
              have he49 : pw_g h44 26 5 = pw_g h25 26 5 := by rw [← h44w]; exact pw_g_ne (by omega)
              have he50 : pw_g h25 26 5 = pw_g h24 26 5 := by rw [← h25w]; exact pw_g_ne (by omega)
              have he51 : pw_g h24 26 5 = 0 := by rw [← h24w]; exact pw_g_eq (c := 26) (k := 5) h23I rfl rfl (by omega) (by omega)
              have he52 : pw_g h44 26 6 = pw_g h25 26 6 := by rw [← h44w]; exact pw_g_ne (by omega)
              have he53 : pw_g h25 26 6 = 0 := by rw [← h25w]; exact pw_g_eq (c := 26) (k := 6) h24I rfl rfl (by omega) (by omega)
              have he54 : pw_g h44 26 7 = 1 := by rw [← h44w]; exact pw_g_eq (c := 26) (k := 7) h25I rfl rfl (by omega) (by omega)
              refine pw_iret E rfl ?_
              exact ⟨h44I, h44F, ⟨by omega, ⟨_, rfl, by omega, by omega⟩⟩⟩
          · intro hc55
            have hc55 : ¬ (x27 ≠ ((-1) : Int)) := hc55
            refine pw_ld E (pc' := 80) (st' := [.ref 42]) rfl (fun _ => rfl) ?_
            refine pw_ld E (pc' := 81) (st' := [pw_i 2, .ref 42]) rfl (fun _ => rfl) ?_
            refine pw_putI h25I E (c := 26) (k := 7) (pc' := 84) rfl rfl rfl rfl (by omega) (by omega) (by omega) (by omega) rfl rfl ?_
            intro h56I h56E
            generalize h56w : pw_w h25 26 7 (pw_i 2) = h56 at h56I h56E ⊢
            have h56F := h25F.tr (h56E.wk (W' := [26, 31, 32, 33]) (by first | rfl | simp))
            refine pw_goto E (pc' := 107) rfl (by decide) ?_
            refine pw_ld E (pc' := 108) (st' := [pw_i 0]) rfl (fun _ => rfl) ?_
            have he57 : pw_g h56 26 4 = pw_g h25 26 4 := by rw [← h56w]; exact pw_g_ne (by omega)
            have he58 : pw_g h25 26 4 = pw_g h24 26 4 := by rw [← h25w]; exact pw_g_ne (by omega)
            have he59 : pw_g h24 26 4 = pw_g h23 26 4 := by rw [← h24w]; exact pw_g_ne (by omega)
            have he60 : pw_g h23 26 4 = 0 := by rw [← h23w]; exact pw_g_eq (c := 26) (k := 4) h21I rfl rfl (by omega) (by omega)
            have he61 : pw_g h56 26 5 = pw_g h25 26 5 := by rw [← h56w]; exact pw_g_ne (by omega)
            have he62 : pw_g h25 26 5 = pw_g h24 26 5 := by rw [← h25w]; exact pw_g_ne (by omega)
            have he63 : pw_g h24 26 5 = 0 := by rw [← h24w]; exact pw_g_eq (c := 26) (k := 5) h23I rfl rfl (by omega) (by omega)
            have he64 : pw_g h56 26 6 = pw_g h25 26 6 := by rw [← h56w]; exact pw_g_ne (by omega)
            have he65 : pw_g h25 26 6 = 0 := by rw [← h25w]; exact pw_g_eq (c := 26) (k := 6) h24I rfl rfl (by omega) (by omega)
            have he66 : pw_g h56 26 7 = 2 := by rw [← h56w]; exact pw_g_eq (c := 26) (k := 7) h25I rfl rfl (by omega) (by omega)
            refine pw_iret E rfl ?_
            exact ⟨h56I, h56F, ⟨by omega, ⟨_, rfl, by omega, by omega⟩⟩⟩
        · intro hc67
          have hc67 : ¬ (x17 = (0 : Int)) := hc67
          refine pw_ld E (pc' := 43) (st' := [pw_i 3]) rfl (fun _ => rfl) ?_
          refine pw_iret E rfl ?_
          exact ⟨I, E0, ⟨by omega, ⟨_, rfl, by omega, by omega⟩⟩⟩
      · intro hc68
        have hc68 : ¬ (x9 < (4 : Nat)) := hc68
        refine pw_ld E (pc' := 33) (st' := [pw_i 1]) rfl (fun _ => rfl) ?_
        refine pw_iret E rfl ?_
        exact ⟨I, E0, ⟨by omega, ⟨_, rfl, by omega, by omega⟩⟩⟩
  · intro hc69
    have hc69 : ¬ (x4 ≠ (4 : Int)) := hc69
    refine pw_ld E (pc' := 9) (st' := [pw_i 0]) rfl (fun _ => rfl) ?_
    refine pw_iret E rfl ?_
    exact ⟨I, E0, ⟨by omega, ⟨_, rfl, by omega, by omega⟩⟩⟩
set_option maxHeartbeats 4000000 in
theorem cm_56_26 {X : List (Nat × List Value)} {d : Nat} {h : pm_H} (hd : 2 ≤ d) (I : pw_I h) (hX : pw_Xk X) (hp0 : pw_g h 24 4 ≠ 2 ∨ 0 ≤ pw_g h 24 5) : pw X d h 56 0 [some (.ref 42), some (.ref 40), some (.ref 46)] [] (fun h' v => pw_I h' ∧ pw_E [26, 34] h h' ∧ ((pw_g h' 26 7 = pw_g h 26 7 ∨ pw_g h' 26 7 = 5)) ∧ (∃ a : Int, v = .inl (some (pw_i a)) ∧ 0 ≤ a ∧ a ≤ 4 ∧ (pw_g h 24 4 ≠ 4 ∨ a = 1))) := by
  have E : pm_ent 56 = some (3, 3, 5, 0, pmc_56) := rfl
  have E0 : pw_E [26, 34] h h := pw_E.rf _ _
  refine pw_ld E (pc' := 1) (st' := [.ref 40]) rfl (fun _ => rfl) ?_
  obtain ⟨f1l, f1h, -⟩ := pw_obj (c := 24) I rfl
  refine pw_call (m' := 107) (As := [.ref 40]) (rest := []) (ls'' := [some (.ref 40)]) (by omega) E rfl (fun _ => pw_iV rfl rfl rfl rfl (pw_cellI f1h rfl)) (rfl : pm_ent 107 = some (1, 1, 9, 0, pmc_107)) rfl rfl (cm_107_24 (by omega) I ) ?_
  rintro u3 v2 ⟨rfl, x4, rfl, hx4a, hx4b, hx4r⟩
  refine ⟨_, rfl, ?_⟩
  show pw X d h 56 4 [some (.ref 42), some (.ref 40), some (.ref 46)] [pw_i x4] _
  have hx4r : x4 = pw_g h 24 4 := hx4r
  refine pw_ld E (pc' := 5) (st' := [pw_i 2, pw_i x4]) rfl (fun _ => rfl) ?_
  refine pw_if2 E (pc' := 10) rfl (by decide) (by omega) (by omega) (by decide) (by decide) ?_ ?_
  · intro hc5
    have hc5 : x4 = (2 : Int) := hc5
    refine pw_ld E (pc' := 11) (st' := [.ref 40]) rfl (fun _ => rfl) ?_
    obtain ⟨f6l, f6h, -⟩ := pw_obj (c := 24) I rfl
    refine pw_call (m' := 110) (As := [.ref 40]) (rest := []) (ls'' := [some (.ref 40)]) (by omega) E rfl (fun _ => pw_iV rfl rfl rfl rfl (pw_cellI f6h rfl)) (rfl : pm_ent 110 = some (1, 1, 9, 0, pmc_110)) rfl rfl (cm_110_24 (by omega) I ) ?_
    rintro u8 v7 ⟨rfl, x9, rfl, hx9a, hx9b, hx9r⟩
    refine ⟨_, rfl, ?_⟩
    show pw X d h 56 14 [some (.ref 42), some (.ref 40), some (.ref 46)] [pw_i x9] _
    have hx9r : x9 = pw_g h 24 5 := hx9r
    refine pw_ld E (pc' := 15) (st' := [.ref 42, pw_i x9]) rfl (fun _ => rfl) ?_
    refine pw_getR (b := 1) I E (c := 26) (k := 2) (pc' := 18) rfl rfl rfl rfl rfl rfl rfl ?_
    refine pw_ld E (pc' := 19) (st' := [.ref 42, .ref 1, pw_i x9]) rfl (fun _ => rfl) ?_
    refine pw_getI I E (c := 26) (k := 8) (pc' := 22) rfl rfl rfl rfl rfl rfl (fun hf10a hf10b hf10c hf10d => ?_)
    obtain ⟨y11l, y11x, y11n, y11r⟩ := hX.1
    refine pw_xald E (pc' := 23) rfl y11x (by decide) y11n y11r (by decide) (by omega) (by omega) rfl (fun x12 hx12a hx12b => ?_)
    refine pw_if2 E (pc' := 28) rfl (by decide) (by omega) (by omega) (by omega) (by omega) ?_ ?_
    · intro hc13
      have hc13 : x9 ≤ x12 := hc13
      refine pw_ld E (pc' := 29) (st' := [.ref 46]) rfl (fun _ => rfl) ?_
      refine pw_ld E (pc' := 30) (st' := [.ref 42, .ref 46]) rfl (fun _ => rfl) ?_
      refine pw_getI I E (c := 26) (k := 8) (pc' := 33) rfl rfl rfl rfl rfl rfl (fun hf14a hf14b hf14c hf14d => ?_)
      refine pw_ld E (pc' := 34) (st' := [.ref 40, pw_i (pw_g h 26 8), .ref 46]) rfl (fun _ => rfl) ?_
      obtain ⟨f15l, f15h, -⟩ := pw_obj (c := 24) I rfl
      refine pw_call (m' := 110) (As := [.ref 40]) (rest := [pw_i (pw_g h 26 8), .ref 46]) (ls'' := [some (.ref 40)]) (by omega) E rfl (fun _ => pw_iV rfl rfl rfl rfl (pw_cellI f15h rfl)) (rfl : pm_ent 110 = some (1, 1, 9, 0, pmc_110)) rfl rfl (cm_110_24 (by omega) I ) ?_
      rintro u17 v16 ⟨rfl, x18, rfl, hx18a, hx18b, hx18r⟩
      refine ⟨_, rfl, ?_⟩
      show pw X d h 56 37 [some (.ref 42), some (.ref 40), some (.ref 46)] [pw_i x18, pw_i (pw_g h 26 8), .ref 46] _
      have hx18r : x18 = pw_g h 24 5 := hx18r
      obtain ⟨f19l, f19h, -⟩ := pw_obj (c := 30) I rfl
      refine pw_call (m' := 72) (As := [.ref 46, pw_i (pw_g h 26 8), pw_i x18]) (rest := []) (ls'' := [some (.ref 46), some (pw_i (pw_g h 26 8)), some (pw_i x18)]) (by omega) E rfl (fun _ => pw_iV rfl rfl rfl rfl (pw_cellI f19h rfl)) (rfl : pm_ent 72 = some (3, 3, 7, 4, pmc_72)) rfl rfl (cm_72 (by omega) I (pw_g h 26 8) (by omega) (by omega) (x18) (by omega) (by omega)) ?_
      rintro h20 v21 ⟨h20I, h20E, rfl⟩
      refine ⟨_, rfl, ?_⟩
      have h20F := E0.tr (h20E.wk (W' := [26, 34]) (by first | rfl | simp))
      show pw X d h20 56 40 [some (.ref 42), some (.ref 40), some (.ref 46)] [] _
      refine pw_ld E (pc' := 41) (st' := [.ref 42]) rfl (fun _ => rfl) ?_
      refine pw_ld E (pc' := 42) (st' := [pw_i 5, .ref 42]) rfl (fun _ => rfl) ?_
      refine pw_putI h20I E (c := 26) (k := 7) (pc' := 45) rfl rfl rfl rfl (by omega) (by omega) (by omega) (by omega) rfl rfl ?_
      intro h22I h22E
      generalize h22w : pw_w h20 26 7 (pw_i 5) = h22 at h22I h22E ⊢
      have h22F := h20F.tr (h22E.wk (W' := [26, 34]) (by first | rfl | simp))
      refine pw_ld E (pc' := 46) (st' := [pw_i 0]) rfl (fun _ => rfl) ?_
      have he23 : pw_g h22 26 7 = 5 := by rw [← h22w]; exact pw_g_eq (c := 26) (k := 7) h20I rfl rfl (by omega) (by omega)
      refine pw_iret E rfl ?_
      exact ⟨h22I, h22F, ⟨by omega, ⟨_, rfl, by omega, by omega, by omega⟩⟩⟩
    · intro hc24
      have hc24 : ¬ (x9 ≤ x12) := hc24
      refine pw_ld E (pc' := 27) (st' := [pw_i 4]) rfl (fun _ => rfl) ?_
      refine pw_iret E rfl ?_
      exact ⟨I, E0, ⟨by omega, ⟨_, rfl, by omega, by omega, by omega⟩⟩⟩
  · intro hc25
    have hc25 : ¬ (x4 = (2 : Int)) := hc25
    refine pw_ld E (pc' := 9) (st' := [pw_i 1]) rfl (fun _ => rfl) ?_
    refine pw_iret E rfl ?_
    exact ⟨I, E0, ⟨by omega, ⟨_, rfl, by omega, by omega, by omega⟩⟩⟩
set_option maxHeartbeats 4000000 in
theorem cm_46_28 {X : List (Nat × List Value)} {d : Nat} {h : pm_H} (hd : 2 ≤ d) (I : pw_I h) (hX : pw_Xk X)  : pw X d h 46 0 [some (.ref 44), some (.ref 40), some (.ref 46), none] [] (fun h' v => pw_I h' ∧ pw_E [28, 31, 32, 33] h h' ∧ ((pw_g h' 28 7 = pw_g h 28 7 ∨ (pw_g h' 28 4 = 0 ∧ pw_g h' 28 5 = 0 ∧ pw_g h' 28 6 = 0))) ∧ (∃ a : Int, v = .inl (some (pw_i a)) ∧ 0 ≤ a ∧ a ≤ 3)) := by
  have E : pm_ent 46 = some (3, 4, 5, 0, pmc_46) := rfl
  have E0 : pw_E [28, 31, 32, 33] h h := pw_E.rf _ _
  refine pw_ld E (pc' := 1) (st' := [.ref 40]) rfl (fun _ => rfl) ?_
  obtain ⟨f1l, f1h, -⟩ := pw_obj (c := 24) I rfl
  refine pw_call (m' := 107) (As := [.ref 40]) (rest := []) (ls'' := [some (.ref 40)]) (by omega) E rfl (fun _ => pw_iV rfl rfl rfl rfl (pw_cellI f1h rfl)) (rfl : pm_ent 107 = some (1, 1, 9, 0, pmc_107)) rfl rfl (cm_107_24 (by omega) I ) ?_
  rintro u3 v2 ⟨rfl, x4, rfl, hx4a, hx4b, hx4r⟩
  refine ⟨_, rfl, ?_⟩
  show pw X d h 46 4 [some (.ref 44), some (.ref 40), some (.ref 46), none] [pw_i x4] _
  have hx4r : x4 = pw_g h 24 4 := hx4r
  refine pw_ld E (pc' := 5) (st' := [pw_i 4, pw_i x4]) rfl (fun _ => rfl) ?_
  refine pw_if2 E (pc' := 10) rfl (by decide) (by omega) (by omega) (by decide) (by decide) ?_ ?_
  · intro hc5
    have hc5 : x4 ≠ (4 : Int) := hc5
    refine pw_ld E (pc' := 11) (st' := [.ref 40]) rfl (fun _ => rfl) ?_
    refine pw_ld E (pc' := 12) (st' := [.ref 44, .ref 40]) rfl (fun _ => rfl) ?_
    refine pw_getR (b := 6) I E (c := 28) (k := 0) (pc' := 15) rfl rfl rfl rfl rfl rfl rfl ?_
    obtain ⟨f6l, f6h, -⟩ := pw_obj (c := 24) I rfl
    refine pw_call (m' := 108) (As := [.ref 40, .ref 6]) (rest := []) (ls'' := [some (.ref 40), some (.ref 6), none, none, none, none, none]) (by omega) E rfl (fun _ => pw_iV rfl rfl rfl rfl (pw_cellI f6h rfl)) (rfl : pm_ent 108 = some (2, 7, 9, 0, pmc_108)) rfl rfl (cm_108_24 (by omega) I hX 6 (by omega) (by omega)) ?_
    rintro u8 v7 ⟨rfl, x9, rfl, hx9a, hx9b, hx9r⟩
    refine ⟨_, rfl, ?_⟩
    show pw X d h 46 18 [some (.ref 44), some (.ref 40), some (.ref 46), none] [pw_i x9] _
    have hx9r : pw_g h 24 4 = 1 ∨ x9 = -1 := hx9r
    refine pw_istn E (pc' := 19) (ls' := [some (.ref 44), some (.ref 40), some (.ref 46), some (pw_i x9)]) rfl rfl rfl rfl ?_
    refine pw_ld E (pc' := 20) (st' := [pw_i x9]) rfl (fun _ => rfl) ?_
    refine pw_if E (pc' := 32) rfl (by decide) (by omega) (by omega) ?_ ?_
    · intro hc10
      have hc10 : x9 < (0 : Int) := hc10
      refine pw_ld E (pc' := 33) (st' := [pw_i 1]) rfl (fun _ => rfl) ?_
      refine pw_iret E rfl ?_
      exact ⟨I, E0, ⟨by omega, ⟨_, rfl, by omega, by omega⟩⟩⟩
    · intro hc11
      have hc11 : ¬ (x9 < (0 : Int)) := hc11
      refine pw_ld E (pc' := 24) (st' := [pw_i x9]) rfl (fun _ => rfl) ?_
      refine pw_ld E (pc' := 25) (st' := [.ref 44, pw_i x9]) rfl (fun _ => rfl) ?_
      refine pw_getR (b := 2) I E (c := 28) (k := 2) (pc' := 28) rfl rfl rfl rfl rfl rfl rfl ?_
      obtain ⟨y12l, y12x, y12n, y12r⟩ := hX.2.1
      refine pw_xlen E (pc' := 29) rfl y12x (by decide) y12n rfl ?_
      refine pw_if2 E (pc' := 34) rfl (by decide) (by omega) (by omega) (by decide) (by decide) ?_ ?_
      · intro hc13
        have hc13 : x9 < (4 : Nat) := hc13
        refine pw_ld E (pc' := 35) (st' := [.ref 46]) rfl (fun _ => rfl) ?_
        refine pw_ld E (pc' := 36) (st' := [pw_i x9, .ref 46]) rfl (fun _ => rfl) ?_
        obtain ⟨f14l, f14h, -⟩ := pw_obj (c := 30) I rfl
        refine pw_call (m' := 69) (As := [.ref 46, pw_i x9]) (rest := []) (ls'' := [some (.ref 46), some (pw_i x9)]) (by omega) E rfl (fun _ => pw_iV rfl rfl rfl rfl (pw_cellI f14h rfl)) (rfl : pm_ent 69 = some (2, 2, 7, 1, pmc_69)) rfl rfl (cm_69_30 (by omega) I (x9) (by omega) (by omega)) ?_
        rintro u16 v15 ⟨rfl, x17, rfl, hx17a, hx17b⟩
        refine ⟨_, rfl, ?_⟩
        show pw X d h 46 39 [some (.ref 44), some (.ref 40), some (.ref 46), some (pw_i x9)] [pw_i x17] _
        refine pw_if E (pc' := 44) rfl (by decide) (by omega) (by omega) ?_ ?_
        · intro hc18
          have hc18 : x17 = (0 : Int) := hc18
          refine pw_ld E (pc' := 45) (st' := [.ref 44]) rfl (fun _ => rfl) ?_
          refine pw_ld E (pc' := 46) (st' := [pw_i x9, .ref 44]) rfl (fun _ => rfl) ?_
          refine pw_putI I E (c := 28) (k := 8) (pc' := 49) rfl rfl rfl rfl (by omega) (by omega) (by omega) (by omega) rfl rfl ?_
          intro h19I h19E
          generalize h19w : pw_w h 28 8 (pw_i x9) = h19 at h19I h19E ⊢
          have h19F := E0.tr (h19E.wk (W' := [28, 31, 32, 33]) (by first | rfl | simp))
          refine pw_ld E (pc' := 50) (st' := [.ref 46]) rfl (fun _ => rfl) ?_
          refine pw_ld E (pc' := 51) (st' := [pw_i x9, .ref 46]) rfl (fun _ => rfl) ?_
          obtain ⟨f20l, f20h, -⟩ := pw_obj (c := 30) h19I rfl
          refine pw_call (m' := 70) (As := [.ref 46, pw_i x9]) (rest := []) (ls'' := [some (.ref 46), some (pw_i x9)]) (by omega) E rfl (fun _ => pw_iV rfl rfl rfl rfl (pw_cellI f20h rfl)) (rfl : pm_ent 70 = some (2, 2, 7, 4, pmc_70)) rfl rfl (cm_70_30 (by omega) h19I (x9) (by omega) (by omega)) ?_
          rintro h21 v22 ⟨h21I, h21E, rfl⟩
          refine ⟨_, rfl, ?_⟩
          have h21F := h19F.tr (h21E.wk (W' := [28, 31, 32, 33]) (by first | rfl | simp))
          show pw X d h21 46 54 [some (.ref 44), some (.ref 40), some (.ref 46), some (pw_i x9)] [] _
          refine pw_ld E (pc' := 55) (st' := [.ref 44]) rfl (fun _ => rfl) ?_
          refine pw_ld E (pc' := 56) (st' := [pw_i 0, .ref 44]) rfl (fun _ => rfl) ?_
          refine pw_putI h21I E (c := 28) (k := 4) (pc' := 59) rfl rfl rfl rfl (by omega) (by omega) (by omega) (by omega) rfl rfl ?_
          intro h23I h23E
          generalize h23w : pw_w h21 28 4 (pw_i 0) = h23 at h23I h23E ⊢
          have h23F := h21F.tr (h23E.wk (W' := [28, 31, 32, 33]) (by first | rfl | simp))
          refine pw_ld E (pc' := 60) (st' := [.ref 44]) rfl (fun _ => rfl) ?_
          refine pw_ld E (pc' := 61) (st' := [pw_i 0, .ref 44]) rfl (fun _ => rfl) ?_
          refine pw_putI h23I E (c := 28) (k := 5) (pc' := 64) rfl rfl rfl rfl (by omega) (by omega) (by omega) (by omega) rfl rfl ?_
          intro h24I h24E
          generalize h24w : pw_w h23 28 5 (pw_i 0) = h24 at h24I h24E ⊢
          have h24F := h23F.tr (h24E.wk (W' := [28, 31, 32, 33]) (by first | rfl | simp))
          refine pw_ld E (pc' := 65) (st' := [.ref 44]) rfl (fun _ => rfl) ?_
          refine pw_ld E (pc' := 66) (st' := [pw_i 0, .ref 44]) rfl (fun _ => rfl) ?_
          refine pw_putI h24I E (c := 28) (k := 6) (pc' := 69) rfl rfl rfl rfl (by omega) (by omega) (by omega) (by omega) rfl rfl ?_
          intro h25I h25E
          generalize h25w : pw_w h24 28 6 (pw_i 0) = h25 at h25I h25E ⊢
          have h25F := h24F.tr (h25E.wk (W' := [28, 31, 32, 33]) (by first | rfl | simp))
          refine pw_ld E (pc' := 70) (st' := [.ref 44]) rfl (fun _ => rfl) ?_
          refine pw_getR (b := 2) h25I E (c := 28) (k := 2) (pc' := 73) rfl rfl rfl rfl rfl rfl rfl ?_
          refine pw_ld E (pc' := 74) (st' := [pw_i x9, .ref 2]) rfl (fun _ => rfl) ?_
          obtain ⟨y26l, y26x, y26n, y26r⟩ := hX.2.1
          refine pw_xald E (pc' := 75) rfl y26x (by decide) y26n y26r (by decide) (by omega) (by omega) rfl (fun x27 hx27a hx27b => ?_)
          refine pw_ld E (pc' := 76) (st' := [pw_i ((-1)), pw_i x27]) rfl (fun _ => rfl) ?_
          refine pw_if2 E (pc' := 87) rfl (by decide) (by omega) (by omega) (by decide) (by decide) ?_ ?_
          · intro hc28
            have hc28 : x27 ≠ ((-1) : Int) := hc28
            refine pw_ld E (pc' := 88) (st' := [.ref 44]) rfl (fun _ => rfl) ?_
            refine pw_ld E (pc' := 89) (st' := [.ref 44, .ref 44]) rfl (fun _ => rfl) ?_
            refine pw_getR (b := 2) h25I E (c := 28) (k := 2) (pc' := 92) rfl rfl rfl rfl rfl rfl rfl ?_
            refine pw_ld E (pc' := 93) (st' := [pw_i x9, .ref 2, .ref 44]) rfl (fun _ => rfl) ?_
            obtain ⟨y29l, y29x, y29n, y29r⟩ := hX.2.1
            refine pw_xald E (pc' := 94) rfl y29x (by decide) y29n y29r (by decide) (by omega) (by omega) rfl (fun x30 hx30a hx30b => ?_)
            refine pw_bip E (pc' := 96) rfl rfl (by decide) ?_
            refine pw_if2 E (pc' := 103) rfl (by decide) (by omega) (by omega) (by decide) (by decide) ?_ ?_
            · intro hc31
              have hc31 : x30 ≠ ((-2) : Int) := hc31
              refine pw_ld E (pc' := 104) (st' := [pw_i 4, .ref 44]) rfl (fun _ => rfl) ?_
              refine pw_putI h25I E (c := 28) (k := 7) (pc' := 107) rfl rfl rfl rfl (by omega) (by omega) (by omega) (by omega) rfl rfl ?_
              intro h32I h32E
              generalize h32w : pw_w h25 28 7 (pw_i 4) = h32 at h32I h32E ⊢
              have h32F := h25F.tr (h32E.wk (W' := [28, 31, 32, 33]) (by first | rfl | simp))
              refine pw_ld E (pc' := 108) (st' := [pw_i 0]) rfl (fun _ => rfl) ?_
              have he33 : pw_g h32 28 4 = pw_g h25 28 4 := by rw [← h32w]; exact pw_g_ne (by omega)
              have he34 : pw_g h25 28 4 = pw_g h24 28 4 := by rw [← h25w]; exact pw_g_ne (by omega)
              have he35 : pw_g h24 28 4 = pw_g h23 28 4 := by rw [← h24w]; exact pw_g_ne (by omega)
              have he36 : pw_g h23 28 4 = 0 := by rw [← h23w]; exact pw_g_eq (c := 28) (k := 4) h21I rfl rfl (by omega) (by omega)
              have he37 : pw_g h32 28 5 = pw_g h25 28 5 := by rw [← h32w]; exact pw_g_ne (by omega)
              have he38 : pw_g h25 28 5 = pw_g h24 28 5 := by rw [← h25w]; exact pw_g_ne (by omega)
              have he39 : pw_g h24 28 5 = 0 := by rw [← h24w]; exact pw_g_eq (c := 28) (k := 5) h23I rfl rfl (by omega) (by omega)
              have he40 : pw_g h32 28 6 = pw_g h25 28 6 := by rw [← h32w]; exact pw_g_ne (by omega)
              have he41 : pw_g h25 28 6 = 0 := by rw [← h25w]; exact pw_g_eq (c := 28) (k := 6) h24I rfl rfl (by omega) (by omega)
              have he42 : pw_g h32 28 7 = 4 := by rw [← h32w]; exact pw_g_eq (c := 28) (k := 7) h25I rfl rfl (by omega) (by omega)
              refine pw_iret E rfl ?_
              exact ⟨h32I, h32F, ⟨by omega, ⟨_, rfl, by omega, by omega⟩⟩⟩
            · intro hc43
              have hc43 : ¬ (x30 ≠ ((-2) : Int)) := hc43
              refine pw_ld E (pc' := 100) (st' := [pw_i 1, .ref 44]) rfl (fun _ => rfl) ?_
              refine pw_goto E (pc' := 104) rfl (by decide) ?_
              refine pw_putI h25I E (c := 28) (k := 7) (pc' := 107) rfl rfl rfl rfl (by omega) (by omega) (by omega) (by omega) rfl rfl ?_
              intro h44I h44E
              generalize h44w : pw_w h25 28 7 (pw_i 1) = h44 at h44I h44E ⊢
              have h44F := h25F.tr (h44E.wk (W' := [28, 31, 32, 33]) (by first | rfl | simp))
              refine pw_ld E (pc' := 108) (st' := [pw_i 0]) rfl (fun _ => rfl) ?_
              have he45 : pw_g h44 28 4 = pw_g h25 28 4 := by rw [← h44w]; exact pw_g_ne (by omega)
              have he46 : pw_g h25 28 4 = pw_g h24 28 4 := by rw [← h25w]; exact pw_g_ne (by omega)
              have he47 : pw_g h24 28 4 = pw_g h23 28 4 := by rw [← h24w]; exact pw_g_ne (by omega)
              have he48 : pw_g h23 28 4 = 0 := by rw [← h23w]; exact pw_g_eq (c := 28) (k := 4) h21I rfl rfl (by omega) (by omega)
              have he49 : pw_g h44 28 5 = pw_g h25 28 5 := by rw [← h44w]; exact pw_g_ne (by omega)
              have he50 : pw_g h25 28 5 = pw_g h24 28 5 := by rw [← h25w]; exact pw_g_ne (by omega)
              have he51 : pw_g h24 28 5 = 0 := by rw [← h24w]; exact pw_g_eq (c := 28) (k := 5) h23I rfl rfl (by omega) (by omega)
              have he52 : pw_g h44 28 6 = pw_g h25 28 6 := by rw [← h44w]; exact pw_g_ne (by omega)
              have he53 : pw_g h25 28 6 = 0 := by rw [← h25w]; exact pw_g_eq (c := 28) (k := 6) h24I rfl rfl (by omega) (by omega)
              have he54 : pw_g h44 28 7 = 1 := by rw [← h44w]; exact pw_g_eq (c := 28) (k := 7) h25I rfl rfl (by omega) (by omega)
              refine pw_iret E rfl ?_
              exact ⟨h44I, h44F, ⟨by omega, ⟨_, rfl, by omega, by omega⟩⟩⟩
          · intro hc55
            have hc55 : ¬ (x27 ≠ ((-1) : Int)) := hc55
            refine pw_ld E (pc' := 80) (st' := [.ref 44]) rfl (fun _ => rfl) ?_
            refine pw_ld E (pc' := 81) (st' := [pw_i 2, .ref 44]) rfl (fun _ => rfl) ?_
            refine pw_putI h25I E (c := 28) (k := 7) (pc' := 84) rfl rfl rfl rfl (by omega) (by omega) (by omega) (by omega) rfl rfl ?_
            intro h56I h56E
            generalize h56w : pw_w h25 28 7 (pw_i 2) = h56 at h56I h56E ⊢
            have h56F := h25F.tr (h56E.wk (W' := [28, 31, 32, 33]) (by first | rfl | simp))
            refine pw_goto E (pc' := 107) rfl (by decide) ?_
            refine pw_ld E (pc' := 108) (st' := [pw_i 0]) rfl (fun _ => rfl) ?_
            have he57 : pw_g h56 28 4 = pw_g h25 28 4 := by rw [← h56w]; exact pw_g_ne (by omega)
            have he58 : pw_g h25 28 4 = pw_g h24 28 4 := by rw [← h25w]; exact pw_g_ne (by omega)
            have he59 : pw_g h24 28 4 = pw_g h23 28 4 := by rw [← h24w]; exact pw_g_ne (by omega)
            have he60 : pw_g h23 28 4 = 0 := by rw [← h23w]; exact pw_g_eq (c := 28) (k := 4) h21I rfl rfl (by omega) (by omega)
            have he61 : pw_g h56 28 5 = pw_g h25 28 5 := by rw [← h56w]; exact pw_g_ne (by omega)
            have he62 : pw_g h25 28 5 = pw_g h24 28 5 := by rw [← h25w]; exact pw_g_ne (by omega)
            have he63 : pw_g h24 28 5 = 0 := by rw [← h24w]; exact pw_g_eq (c := 28) (k := 5) h23I rfl rfl (by omega) (by omega)
            have he64 : pw_g h56 28 6 = pw_g h25 28 6 := by rw [← h56w]; exact pw_g_ne (by omega)
            have he65 : pw_g h25 28 6 = 0 := by rw [← h25w]; exact pw_g_eq (c := 28) (k := 6) h24I rfl rfl (by omega) (by omega)
            have he66 : pw_g h56 28 7 = 2 := by rw [← h56w]; exact pw_g_eq (c := 28) (k := 7) h25I rfl rfl (by omega) (by omega)
            refine pw_iret E rfl ?_
            exact ⟨h56I, h56F, ⟨by omega, ⟨_, rfl, by omega, by omega⟩⟩⟩
        · intro hc67
          have hc67 : ¬ (x17 = (0 : Int)) := hc67
          refine pw_ld E (pc' := 43) (st' := [pw_i 3]) rfl (fun _ => rfl) ?_
          refine pw_iret E rfl ?_
          exact ⟨I, E0, ⟨by omega, ⟨_, rfl, by omega, by omega⟩⟩⟩
      · intro hc68
        have hc68 : ¬ (x9 < (4 : Nat)) := hc68
        refine pw_ld E (pc' := 33) (st' := [pw_i 1]) rfl (fun _ => rfl) ?_
        refine pw_iret E rfl ?_
        exact ⟨I, E0, ⟨by omega, ⟨_, rfl, by omega, by omega⟩⟩⟩
  · intro hc69
    have hc69 : ¬ (x4 ≠ (4 : Int)) := hc69
    refine pw_ld E (pc' := 9) (st' := [pw_i 0]) rfl (fun _ => rfl) ?_
    refine pw_iret E rfl ?_
    exact ⟨I, E0, ⟨by omega, ⟨_, rfl, by omega, by omega⟩⟩⟩
set_option maxHeartbeats 4000000 in
theorem cm_56_28 {X : List (Nat × List Value)} {d : Nat} {h : pm_H} (hd : 2 ≤ d) (I : pw_I h) (hX : pw_Xk X) (hp0 : pw_g h 24 4 ≠ 2 ∨ 0 ≤ pw_g h 24 5) : pw X d h 56 0 [some (.ref 44), some (.ref 40), some (.ref 46)] [] (fun h' v => pw_I h' ∧ pw_E [28, 34] h h' ∧ ((pw_g h' 28 7 = pw_g h 28 7 ∨ pw_g h' 28 7 = 5)) ∧ (∃ a : Int, v = .inl (some (pw_i a)) ∧ 0 ≤ a ∧ a ≤ 4 ∧ (pw_g h 24 4 ≠ 4 ∨ a = 1))) := by
  have E : pm_ent 56 = some (3, 3, 5, 0, pmc_56) := rfl
  have E0 : pw_E [28, 34] h h := pw_E.rf _ _
  refine pw_ld E (pc' := 1) (st' := [.ref 40]) rfl (fun _ => rfl) ?_
  obtain ⟨f1l, f1h, -⟩ := pw_obj (c := 24) I rfl
  refine pw_call (m' := 107) (As := [.ref 40]) (rest := []) (ls'' := [some (.ref 40)]) (by omega) E rfl (fun _ => pw_iV rfl rfl rfl rfl (pw_cellI f1h rfl)) (rfl : pm_ent 107 = some (1, 1, 9, 0, pmc_107)) rfl rfl (cm_107_24 (by omega) I ) ?_
  rintro u3 v2 ⟨rfl, x4, rfl, hx4a, hx4b, hx4r⟩
  refine ⟨_, rfl, ?_⟩
  show pw X d h 56 4 [some (.ref 44), some (.ref 40), some (.ref 46)] [pw_i x4] _
  have hx4r : x4 = pw_g h 24 4 := hx4r
  refine pw_ld E (pc' := 5) (st' := [pw_i 2, pw_i x4]) rfl (fun _ => rfl) ?_
  refine pw_if2 E (pc' := 10) rfl (by decide) (by omega) (by omega) (by decide) (by decide) ?_ ?_
  · intro hc5
    have hc5 : x4 = (2 : Int) := hc5
    refine pw_ld E (pc' := 11) (st' := [.ref 40]) rfl (fun _ => rfl) ?_
    obtain ⟨f6l, f6h, -⟩ := pw_obj (c := 24) I rfl
    refine pw_call (m' := 110) (As := [.ref 40]) (rest := []) (ls'' := [some (.ref 40)]) (by omega) E rfl (fun _ => pw_iV rfl rfl rfl rfl (pw_cellI f6h rfl)) (rfl : pm_ent 110 = some (1, 1, 9, 0, pmc_110)) rfl rfl (cm_110_24 (by omega) I ) ?_
    rintro u8 v7 ⟨rfl, x9, rfl, hx9a, hx9b, hx9r⟩
    refine ⟨_, rfl, ?_⟩
    show pw X d h 56 14 [some (.ref 44), some (.ref 40), some (.ref 46)] [pw_i x9] _
    have hx9r : x9 = pw_g h 24 5 := hx9r
    refine pw_ld E (pc' := 15) (st' := [.ref 44, pw_i x9]) rfl (fun _ => rfl) ?_
    refine pw_getR (b := 2) I E (c := 28) (k := 2) (pc' := 18) rfl rfl rfl rfl rfl rfl rfl ?_
    refine pw_ld E (pc' := 19) (st' := [.ref 44, .ref 2, pw_i x9]) rfl (fun _ => rfl) ?_
    refine pw_getI I E (c := 28) (k := 8) (pc' := 22) rfl rfl rfl rfl rfl rfl (fun hf10a hf10b hf10c hf10d => ?_)
    obtain ⟨y11l, y11x, y11n, y11r⟩ := hX.2.1
    refine pw_xald E (pc' := 23) rfl y11x (by decide) y11n y11r (by decide) (by omega) (by omega) rfl (fun x12 hx12a hx12b => ?_)
    refine pw_if2 E (pc' := 28) rfl (by decide) (by omega) (by omega) (by omega) (by omega) ?_ ?_
    · intro hc13
      have hc13 : x9 ≤ x12 := hc13
      refine pw_ld E (pc' := 29) (st' := [.ref 46]) rfl (fun _ => rfl) ?_
      refine pw_ld E (pc' := 30) (st' := [.ref 44, .ref 46]) rfl (fun _ => rfl) ?_
      refine pw_getI I E (c := 28) (k := 8) (pc' := 33) rfl rfl rfl rfl rfl rfl (fun hf14a hf14b hf14c hf14d => ?_)
      refine pw_ld E (pc' := 34) (st' := [.ref 40, pw_i (pw_g h 28 8), .ref 46]) rfl (fun _ => rfl) ?_
      obtain ⟨f15l, f15h, -⟩ := pw_obj (c := 24) I rfl
      refine pw_call (m' := 110) (As := [.ref 40]) (rest := [pw_i (pw_g h 28 8), .ref 46]) (ls'' := [some (.ref 40)]) (by omega) E rfl (fun _ => pw_iV rfl rfl rfl rfl (pw_cellI f15h rfl)) (rfl : pm_ent 110 = some (1, 1, 9, 0, pmc_110)) rfl rfl (cm_110_24 (by omega) I ) ?_
      rintro u17 v16 ⟨rfl, x18, rfl, hx18a, hx18b, hx18r⟩
      refine ⟨_, rfl, ?_⟩
      show pw X d h 56 37 [some (.ref 44), some (.ref 40), some (.ref 46)] [pw_i x18, pw_i (pw_g h 28 8), .ref 46] _
      have hx18r : x18 = pw_g h 24 5 := hx18r
      obtain ⟨f19l, f19h, -⟩ := pw_obj (c := 30) I rfl
      refine pw_call (m' := 72) (As := [.ref 46, pw_i (pw_g h 28 8), pw_i x18]) (rest := []) (ls'' := [some (.ref 46), some (pw_i (pw_g h 28 8)), some (pw_i x18)]) (by omega) E rfl (fun _ => pw_iV rfl rfl rfl rfl (pw_cellI f19h rfl)) (rfl : pm_ent 72 = some (3, 3, 7, 4, pmc_72)) rfl rfl (cm_72 (by omega) I (pw_g h 28 8) (by omega) (by omega) (x18) (by omega) (by omega)) ?_
      rintro h20 v21 ⟨h20I, h20E, rfl⟩
      refine ⟨_, rfl, ?_⟩
      have h20F := E0.tr (h20E.wk (W' := [28, 34]) (by first | rfl | simp))
      show pw X d h20 56 40 [some (.ref 44), some (.ref 40), some (.ref 46)] [] _
      refine pw_ld E (pc' := 41) (st' := [.ref 44]) rfl (fun _ => rfl) ?_
      refine pw_ld E (pc' := 42) (st' := [pw_i 5, .ref 44]) rfl (fun _ => rfl) ?_
      refine pw_putI h20I E (c := 28) (k := 7) (pc' := 45) rfl rfl rfl rfl (by omega) (by omega) (by omega) (by omega) rfl rfl ?_
      intro h22I h22E
      generalize h22w : pw_w h20 28 7 (pw_i 5) = h22 at h22I h22E ⊢
      have h22F := h20F.tr (h22E.wk (W' := [28, 34]) (by first | rfl | simp))
      refine pw_ld E (pc' := 46) (st' := [pw_i 0]) rfl (fun _ => rfl) ?_
      have he23 : pw_g h22 28 7 = 5 := by rw [← h22w]; exact pw_g_eq (c := 28) (k := 7) h20I rfl rfl (by omega) (by omega)
      refine pw_iret E rfl ?_
      exact ⟨h22I, h22F, ⟨by omega, ⟨_, rfl, by omega, by omega, by omega⟩⟩⟩
    · intro hc24
      have hc24 : ¬ (x9 ≤ x12) := hc24
      refine pw_ld E (pc' := 27) (st' := [pw_i 4]) rfl (fun _ => rfl) ?_
      refine pw_iret E rfl ?_
      exact ⟨I, E0, ⟨by omega, ⟨_, rfl, by omega, by omega, by omega⟩⟩⟩
  · intro hc25
    have hc25 : ¬ (x4 = (2 : Int)) := hc25
    refine pw_ld E (pc' := 9) (st' := [pw_i 1]) rfl (fun _ => rfl) ?_
    refine pw_iret E rfl ?_
    exact ⟨I, E0, ⟨by omega, ⟨_, rfl, by omega, by omega, by omega⟩⟩⟩
