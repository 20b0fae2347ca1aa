/-! contracts (printed by wip/tool/pwspec.py) -/
set_option maxHeartbeats 4000000 in
theorem cm_68 {X : List (Nat × List Value)} {d : Nat} {h : pm_H} (hd : 1 ≤ d) (I : pw_I h)  : pw X d h 68 0 [some (.ref 46), none] [] (fun h' v => pw_I h' ∧ pw_E [30, 31] h h' ∧ v = .inl none) := by
  have E : pm_ent 68 = some (1, 2, 7, 4, pmc_68) := rfl
  have E0 : pw_E [30, 31] h h := pw_E.rf _ _
  refine pw_ld E (pc' := 1) (st' := [.ref 46]) rfl (fun _ => rfl) ?_
  refine pw_ld E (pc' := 2) (st' := [pw_i 0, .ref 46]) rfl (fun _ => rfl) ?_
  refine pw_putI I E (c := 30) (k := 1) (pc' := 5) rfl rfl rfl rfl (by omega) (by omega) (by omega) (by omega) rfl rfl ?_
  intro h1I h1E
  generalize h1w : pw_w h 30 1 (pw_i 0) = h1 at h1I h1E ⊢
  have h1F := E0.tr (h1E.wk (W' := [30, 31]) (by first | rfl | simp))
  refine pw_ld E (pc' := 6) (st' := [pw_i 0]) rfl (fun _ => rfl) ?_
  refine pw_istn E (pc' := 7) (ls' := [some (.ref 46), some (pw_i 0)]) rfl rfl rfl rfl ?_
  have L7 : ∀ (n7 : Nat) (k7_1 : Int) (h7 : pm_H), pw_I h7 → pw_E [30, 31] h h7 → 0 ≤ k7_1 → k7_1 ≤ 4 → (4 - k7_1).toNat = n7 → pw X d h7 68 7 [some (.ref 46), some (pw_i k7_1)] [] (fun h' v => pw_I h' ∧ pw_E [30, 31] h h' ∧ v = .inl none) := by
    intro n7
    induction n7 using Nat.strongRecOn with
    | ind n7 ih7 =>
      intro k7_1 h7 I7 E7 k7_1a k7_1b hm7
      refine pw_ld E (pc' := 8) (st' := [pw_i k7_1]) rfl (fun _ => rfl) ?_
      refine pw_ld E (pc' := 9) (st' := [pw_i 4, pw_i k7_1]) rfl (fun _ => rfl) ?_
      refine pw_if2 E (pc' := 25) rfl (by decide) (by omega) (by omega) (by decide) (by decide) ?_ ?_
      · intro hc2
        have hc2 : (4 : Int) ≤ k7_1 := hc2
        refine pw_vret E rfl ?_
        exact ⟨I7, E7, rfl⟩
      · intro hc3
        have hc3 : ¬ ((4 : Int) ≤ k7_1) := hc3
        refine pw_ld E (pc' := 13) (st' := [.ref 46]) rfl (fun _ => rfl) ?_
        refine pw_getR (b := 47) I7 E (c := 30) (k := 2) (pc' := 16) rfl rfl rfl rfl rfl rfl rfl ?_
        refine pw_ld E (pc' := 17) (st' := [pw_i k7_1, .ref 47]) rfl (fun _ => rfl) ?_
        refine pw_ld E (pc' := 18) (st' := [pw_i 0, pw_i k7_1, .ref 47]) rfl (fun _ => rfl) ?_
        refine pw_ast0 I7 E (c := 31) (pc' := 19) rfl rfl rfl (by decide) rfl (by decide) (by omega) (by omega) (pw_b1 (by omega) (by omega)) (by omega) (by omega) (by omega) (by omega) rfl ?_
        intro h4I h4E
        generalize h4w : pw_w h7 31 (k7_1.toNat) (pw_i 0) = h4 at h4I h4E ⊢
        have h4F := E7.tr (h4E.wk (W' := [30, 31]) (by first | rfl | simp))
        refine pw_inc E (pc' := 22) (ls' := [some (.ref 46), some (pw_i (k7_1 + 1))]) rfl rfl rfl rfl ?_
        refine pw_goto E (pc' := 7) rfl (by decide) ?_
        exact ih7 _ (by omega) (k7_1 + 1) h4 h4I h4F (by omega) (by omega)  rfl
  exact L7 _ (0) h1 h1I h1F (by omega) (by omega)  rfl
set_option maxHeartbeats 4000000 in
theorem cm_69_30 {X : List (Nat × List Value)} {d : Nat} {h : pm_H} (hd : 1 ≤ d) (I : pw_I h) (li : Int) (hli1 : 0 ≤ li) (hli2 : li ≤ 3) : pw X d h 69 0 [some (.ref 46), some (pw_i li)] [] (fun h' v => h = h' ∧ ∃ a : Int, v = .inl (some (pw_i a)) ∧ 0 ≤ a ∧ a ≤ 1) := by
  have E : pm_ent 69 = some (2, 2, 7, 1, pmc_69) := rfl
  refine pw_ld E (pc' := 1) (st' := [.ref 46]) rfl (fun _ => rfl) ?_
  refine pw_getR (b := 47) I E (c := 30) (k := 2) (pc' := 4) rfl rfl rfl rfl rfl rfl rfl ?_
  refine pw_ld E (pc' := 5) (st' := [pw_i li, .ref 47]) rfl (fun _ => rfl) ?_
  refine pw_ald I E (c := 31) (pc' := 6) rfl rfl rfl (by decide) rfl (by decide) (by omega) (by omega) rfl (fun hf1a hf1b hf1c hf1d => ?_)
  refine pw_zret E rfl (by omega) ?_
  exact ⟨rfl, ⟨_, rfl, by omega, by omega⟩⟩
set_option maxHeartbeats 4000000 in
theorem cm_69 {X : List (Nat × List Value)} {d : Nat} {h : pm_H} (hd : 1 ≤ d) (I : pw_I h) (c : Nat) (hc : pw_Sc c) (li : Int) (hli1 : 0 ≤ li) (hli2 : li ≤ 3) : pw X d h 69 0 [some (.ref (16 + c)), some (pw_i li)] [] (fun h' v => h = h' ∧ ∃ a : Int, v = .inl (some (pw_i a)) ∧ 0 ≤ a ∧ a ≤ 1) := by
  have E : pm_ent 69 = some (2, 2, 7, 1, pmc_69) := rfl
  refine pw_ld E (pc' := 1) (st' := [.ref (16 + c)]) rfl (fun _ => rfl) ?_
  refine pw_getR (b := 16 + (c + 1)) I E (c := c) (k := 2) (pc' := 4) rfl rfl (pw_Sc_o hc) rfl rfl rfl rfl ?_
  refine pw_ld E (pc' := 5) (st' := [pw_i li, .ref (16 + (c + 1))]) rfl (fun _ => rfl) ?_
  refine pw_ald I E (c := c + 1) (pc' := 6) rfl rfl (pw_Sc_1 hc) (by decide) rfl (by decide) (by omega) (by omega) rfl (fun hf1a hf1b hf1c hf1d => ?_)
  refine pw_zret E rfl (by omega) ?_
  exact ⟨rfl, ⟨_, rfl, by omega, by omega⟩⟩
set_option maxHeartbeats 4000000 in
theorem cm_70 {X : List (Nat × List Value)} {d : Nat} {h : pm_H} (hd : 1 ≤ d) (I : pw_I h) (li : Int) (hli1 : 0 ≤ li) (hli2 : li ≤ 3) : pw X d h 70 0 [some (.ref 46), some (pw_i li)] [] (fun h' v => pw_I h' ∧ pw_E [30, 31, 32, 33] h h' ∧ v = .inl none) := by
  have E : pm_ent 70 = some (2, 2, 7, 4, pmc_70) := rfl
  have E0 : pw_E [30, 31, 32, 33] h h := pw_E.rf _ _
  refine pw_ld E (pc' := 1) (st' := [.ref 46]) rfl (fun _ => rfl) ?_
  refine pw_getR (b := 47) I E (c := 30) (k := 2) (pc' := 4) rfl rfl rfl rfl rfl rfl rfl ?_
  refine pw_ld E (pc' := 5) (st' := [pw_i li, .ref 47]) rfl (fun _ => rfl) ?_
  refine pw_ld E (pc' := 6) (st' := [pw_i 1, pw_i li, .ref 47]) rfl (fun _ => rfl) ?_
  refine pw_ast0 I E (c := 31) (pc' := 7) rfl rfl rfl (by decide) rfl (by decide) (by omega) (by omega) (pw_b1 (by omega) (by omega)) (by omega) (by omega) (by omega) (by omega) rfl ?_
  intro h1I h1E
  generalize h1w : pw_w h 31 (li.toNat) (pw_i 1) = h1 at h1I h1E ⊢
  have h1F := E0.tr (h1E.wk (W' := [30, 31, 32, 33]) (by first | rfl | simp))
  refine pw_ld E (pc' := 8) (st' := [.ref 46]) rfl (fun _ => rfl) ?_
  refine pw_getR (b := 48) h1I E (c := 30) (k := 3) (pc' := 11) rfl rfl rfl rfl rfl rfl rfl ?_
  refine pw_ld E (pc' := 12) (st' := [pw_i li, .ref 48]) rfl (fun _ => rfl) ?_
  refine pw_ld E (pc' := 13) (st' := [.ref 46, pw_i li, .ref 48]) rfl (fun _ => rfl) ?_
  refine pw_getI h1I E (c := 30) (k := 1) (pc' := 16) rfl rfl rfl rfl rfl rfl (fun hf2a hf2b hf2c hf2d => ?_)
  refine pw_ast0 h1I E (c := 32) (pc' := 17) rfl rfl rfl (by decide) rfl (by decide) (by omega) (by omega) rfl (by omega) (by omega) (by omega) (by omega) rfl ?_
  intro h3I h3E
  generalize h3w : pw_w h1 32 (li.toNat) (pw_i (pw_g h1 30 1)) = h3 at h3I h3E ⊢
  have h3F := h1F.tr (h3E.wk (W' := [30, 31, 32, 33]) (by first | rfl | simp))
  refine pw_ld E (pc' := 18) (st' := [.ref 46]) rfl (fun _ => rfl) ?_
  refine pw_getR (b := 49) h3I E (c := 30) (k := 4) (pc' := 21) rfl rfl rfl rfl rfl rfl rfl ?_
  refine pw_ld E (pc' := 22) (st' := [pw_i li, .ref 49]) rfl (fun _ => rfl) ?_
  refine pw_ld E (pc' := 23) (st' := [.ref 46, pw_i li, .ref 49]) rfl (fun _ => rfl) ?_
  have he5 : pw_g h3 30 1 = pw_g h1 30 1 := by rw [← h3w]; exact pw_g_ne (by omega)
  refine pw_getI h3I E (c := 30) (k := 1) (pc' := 26) rfl rfl rfl rfl rfl rfl (fun hf4a hf4b hf4c hf4d => ?_)
  refine pw_ast0 h3I E (c := 33) (pc' := 27) rfl rfl rfl (by decide) rfl (by decide) (by omega) (by omega) rfl (by omega) (by omega) (by omega) (by omega) rfl ?_
  intro h6I h6E
  generalize h6w : pw_w h3 33 (li.toNat) (pw_i (pw_g h3 30 1)) = h6 at h6I h6E ⊢
  have h6F := h3F.tr (h6E.wk (W' := [30, 31, 32, 33]) (by first | rfl | simp))
  refine pw_vret E rfl ?_
  exact ⟨h6I, h6F, rfl⟩
set_option maxHeartbeats 4000000 in
theorem cm_71 {X : List (Nat × List Value)} {d : Nat} {h : pm_H} (hd : 1 ≤ d) (I : pw_I h) (li : Int) (hli1 : 0 ≤ li) (hli2 : li ≤ 3) (wd : Int) (hwd1 : (-2147483648) ≤ wd) (hwd2 : wd ≤ 2147483647) : pw X d h 71 0 [some (.ref 46), some (pw_i li), some (pw_i wd)] [] (fun h' v => pw_I h' ∧ pw_E [30, 33, 36] h h' ∧ v = .inl none) := by
  have E : pm_ent 71 = some (3, 3, 7, 4, pmc_71) := rfl
  have E0 : pw_E [30, 33, 36] h h := pw_E.rf _ _
  refine pw_ld E (pc' := 1) (st' := [.ref 46]) rfl (fun _ => rfl) ?_
  refine pw_getI I E (c := 30) (k := 1) (pc' := 4) rfl rfl rfl rfl rfl rfl (fun hf1a hf1b hf1c hf1d => ?_)
  refine pw_ld E (pc' := 5) (st' := [.ref 46, pw_i (pw_g h 30 1)]) rfl (fun _ => rfl) ?_
  refine pw_getR (b := 52) I E (c := 30) (k := 0) (pc' := 8) rfl rfl rfl rfl rfl rfl rfl ?_
  obtain ⟨z2l, z2h, z2n, -⟩ := pw_arr (c := 36) I rfl
  refine pw_alen E (pc' := 9) rfl (pw_rowI z2h rfl) rfl rfl ?_
  rw [z2n]
  refine pw_if2 E (pc' := 42) rfl (by decide) (by omega) (by omega) (by decide) (by decide) ?_ ?_
  · intro hc3
    have hc3 : (1000 : Nat) ≤ pw_g h 30 1 := hc3
    refine pw_vret E rfl ?_
    exact ⟨I, E0, rfl⟩
  · intro hc4
    have hc4 : ¬ ((1000 : Nat) ≤ pw_g h 30 1) := hc4
    refine pw_ld E (pc' := 13) (st' := [.ref 46]) rfl (fun _ => rfl) ?_
    refine pw_getR (b := 52) I E (c := 30) (k := 0) (pc' := 16) rfl rfl rfl rfl rfl rfl rfl ?_
    refine pw_ld E (pc' := 17) (st' := [.ref 46, .ref 52]) rfl (fun _ => rfl) ?_
    refine pw_getI I E (c := 30) (k := 1) (pc' := 20) rfl rfl rfl rfl rfl rfl (fun hf5a hf5b hf5c hf5d => ?_)
    refine pw_ld E (pc' := 21) (st' := [pw_i wd, pw_i (pw_g h 30 1), .ref 52]) rfl (fun _ => rfl) ?_
    refine pw_ast0 I E (c := 36) (pc' := 22) rfl rfl rfl (by decide) rfl (by decide) (by omega) (by omega) rfl (by omega) (by omega) (by omega) (by omega) rfl ?_
    intro h6I h6E
    generalize h6w : pw_w h 36 ((pw_g h 30 1).toNat) (pw_i wd) = h6 at h6I h6E ⊢
    have h6F := E0.tr (h6E.wk (W' := [30, 33, 36]) (by first | rfl | simp))
    refine pw_ld E (pc' := 23) (st' := [.ref 46]) rfl (fun _ => rfl) ?_
    refine pw_ld E (pc' := 24) (st' := [.ref 46, .ref 46]) rfl (fun _ => rfl) ?_
    have he8 : pw_g h6 30 1 = pw_g h 30 1 := by rw [← h6w]; exact pw_g_ne (by omega)
    refine pw_getI h6I E (c := 30) (k := 1) (pc' := 27) rfl rfl rfl rfl rfl rfl (fun hf7a hf7b hf7c hf7d => ?_)
    refine pw_ld E (pc' := 28) (st' := [pw_i 1, pw_i (pw_g h6 30 1), .ref 46]) rfl (fun _ => rfl) ?_
    refine pw_add E (pc' := 29) rfl rfl ?_
    refine pw_putI h6I E (c := 30) (k := 1) (pc' := 32) rfl rfl rfl rfl (by omega) (by omega) (by omega) (by omega) rfl rfl ?_
    intro h9I h9E
    generalize h9w : pw_w h6 30 1 (pw_i ((pw_g h6 30 1) + 1)) = h9 at h9I h9E ⊢
    have h9F := h6F.tr (h9E.wk (W' := [30, 33, 36]) (by first | rfl | simp))
    refine pw_ld E (pc' := 33) (st' := [.ref 46]) rfl (fun _ => rfl) ?_
    refine pw_getR (b := 49) h9I E (c := 30) (k := 4) (pc' := 36) rfl rfl rfl rfl rfl rfl rfl ?_
    refine pw_ld E (pc' := 37) (st' := [pw_i li, .ref 49]) rfl (fun _ => rfl) ?_
    refine pw_ld E (pc' := 38) (st' := [.ref 46, pw_i li, .ref 49]) rfl (fun _ => rfl) ?_
    have he11 : pw_g h9 30 1 = (pw_g h6 30 1) + 1 := by rw [← h9w]; exact pw_g_eq (c := 30) (k := 1) h6I rfl rfl (by omega) (by omega)
    refine pw_getI h9I E (c := 30) (k := 1) (pc' := 41) rfl rfl rfl rfl rfl rfl (fun hf10a hf10b hf10c hf10d => ?_)
    refine pw_ast0 h9I E (c := 33) (pc' := 42) rfl rfl rfl (by decide) rfl (by decide) (by omega) (by omega) rfl (by omega) (by omega) (by omega) (by omega) rfl ?_
    intro h12I h12E
    generalize h12w : pw_w h9 33 (li.toNat) (pw_i (pw_g h9 30 1)) = h12 at h12I h12E ⊢
    have h12F := h9F.tr (h12E.wk (W' := [30, 33, 36]) (by first | rfl | simp))
    refine pw_vret E rfl ?_
    exact ⟨h12I, h12F, rfl⟩
set_option maxHeartbeats 4000000 in
theorem cm_72 {X : List (Nat × List Value)} {d : Nat} {h : pm_H} (hd : 1 ≤ d) (I : pw_I h) (li : Int) (hli1 : 0 ≤ li) (hli2 : li ≤ 3) (n : Int) (hn1 : 0 ≤ n) (hn2 : n ≤ 11) : pw X d h 72 0 [some (.ref 46), some (pw_i li), some (pw_i n)] [] (fun h' v => pw_I h' ∧ pw_E [34] h h' ∧ v = .inl none) := by
  have E : pm_ent 72 = some (3, 3, 7, 4, pmc_72) := rfl
  have E0 : pw_E [34] h h := pw_E.rf _ _
  refine pw_ld E (pc' := 1) (st' := [.ref 46]) rfl (fun _ => rfl) ?_
  refine pw_getR (b := 50) I E (c := 30) (k := 5) (pc' := 4) rfl rfl rfl rfl rfl rfl rfl ?_
  refine pw_ld E (pc' := 5) (st' := [pw_i li, .ref 50]) rfl (fun _ => rfl) ?_
  refine pw_ld E (pc' := 6) (st' := [pw_i n, pw_i li, .ref 50]) rfl (fun _ => rfl) ?_
  refine pw_ast0 I E (c := 34) (pc' := 7) rfl rfl rfl (by decide) rfl (by decide) (by omega) (by omega) rfl (by omega) (by omega) (by omega) (by omega) rfl ?_
  intro h1I h1E
  generalize h1w : pw_w h 34 (li.toNat) (pw_i n) = h1 at h1I h1E ⊢
  have h1F := E0.tr (h1E.wk (W' := [34]) (by first | rfl | simp))
  refine pw_vret E rfl ?_
  exact ⟨h1I, h1F, rfl⟩
set_option maxHeartbeats 4000000 in
theorem cm_77 {X : List (Nat × List Value)} {d : Nat} {h : pm_H} (hd : 1 ≤ d) (I : pw_I h) (op : Int) (hop1 : (-2147483648) ≤ op) (hop2 : op ≤ 2147483647) (x : Int) (hx1 : (-2147483648) ≤ x) (hx2 : x ≤ 2147483647) (y : Int) (hy1 : (-2147483648) ≤ y) (hy2 : y ≤ 2147483647) : pw X d h 77 0 [some (pw_i op), some (pw_i x), some (pw_i y)] [] (fun h' v => h = h' ∧ ∃ a : Int, v = .inl (some (pw_i a)) ∧ (-2147483648) ≤ a ∧ a ≤ 2147483647) := by
  have E : pm_ent 77 = some (3, 3, 7, 0, pmc_77) := rfl
  refine pw_ld E (pc' := 1) (st' := [pw_i op]) rfl (fun _ => rfl) ?_
  rcases (by omega : op = 1 ∨ op = 2 ∨ op = 3 ∨ op = 4 ∨ op = 5 ∨ op = 6 ∨ (op < 1 ∨ 6 < op)) with hs1 | hs1 | hs1 | hs1 | hs1 | hs1 | hs1
  · refine pw_tswJ (o := 39) E (pc' := 40) rfl (by omega) (by omega) (by omega) (by rw [hs1]; rfl) (by decide) ?_
    refine pw_ld E (pc' := 41) (st' := [pw_i x]) rfl (fun _ => rfl) ?_
    refine pw_if E (pc' := 52) rfl (by decide) (by omega) (by omega) ?_ ?_
    · intro hc2
      have hc2 : x = (0 : Int) := hc2
      refine pw_ld E (pc' := 53) (st' := [pw_i 0]) rfl (fun _ => rfl) ?_
      refine pw_iret E rfl ?_
      exact ⟨rfl, ⟨_, rfl, by omega, by omega⟩⟩
    · intro hc3
      have hc3 : ¬ (x = (0 : Int)) := hc3
      refine pw_ld E (pc' := 45) (st' := [pw_i y]) rfl (fun _ => rfl) ?_
      refine pw_if E (pc' := 52) rfl (by decide) (by omega) (by omega) ?_ ?_
      · intro hc4
        have hc4 : y = (0 : Int) := hc4
        refine pw_ld E (pc' := 53) (st' := [pw_i 0]) rfl (fun _ => rfl) ?_
        refine pw_iret E rfl ?_
        exact ⟨rfl, ⟨_, rfl, by omega, by omega⟩⟩
      · intro hc5
        have hc5 : ¬ (y = (0 : Int)) := hc5
        refine pw_ld E (pc' := 49) (st' := [pw_i 1]) rfl (fun _ => rfl) ?_
        refine pw_goto E (pc' := 53) rfl (by decide) ?_
        refine pw_iret E rfl ?_
        exact ⟨rfl, ⟨_, rfl, by omega, by omega⟩⟩
  · refine pw_tswJ (o := 53) E (pc' := 54) rfl (by omega) (by omega) (by omega) (by rw [hs1]; rfl) (by decide) ?_
    refine pw_ld E (pc' := 55) (st' := [pw_i x]) rfl (fun _ => rfl) ?_
    refine pw_if E (pc' := 62) rfl (by decide) (by omega) (by omega) ?_ ?_
    · intro hc6
      have hc6 : x ≠ (0 : Int) := hc6
      refine pw_ld E (pc' := 63) (st' := [pw_i 1]) rfl (fun _ => rfl) ?_
      refine pw_goto E (pc' := 67) rfl (by decide) ?_
      refine pw_iret E rfl ?_
      exact ⟨rfl, ⟨_, rfl, by omega, by omega⟩⟩
    · intro hc7
      have hc7 : ¬ (x ≠ (0 : Int)) := hc7
      refine pw_ld E (pc' := 59) (st' := [pw_i y]) rfl (fun _ => rfl) ?_
      refine pw_if E (pc' := 66) rfl (by decide) (by omega) (by omega) ?_ ?_
      · intro hc8
        have hc8 : y = (0 : Int) := hc8
        refine pw_ld E (pc' := 67) (st' := [pw_i 0]) rfl (fun _ => rfl) ?_
        refine pw_iret E rfl ?_
        exact ⟨rfl, ⟨_, rfl, by omega, by omega⟩⟩
      · intro hc9
        have hc9 : ¬ (y = (0 : Int)) := hc9
        refine pw_ld E (pc' := 63) (st' := [pw_i 1]) rfl (fun _ => rfl) ?_
        refine pw_goto E (pc' := 67) rfl (by decide) ?_
        refine pw_iret E rfl ?_
        exact ⟨rfl, ⟨_, rfl, by omega, by omega⟩⟩
  · refine pw_tswJ (o := 67) E (pc' := 68) rfl (by omega) (by omega) (by omega) (by rw [hs1]; rfl) (by decide) ?_
    refine pw_ld E (pc' := 69) (st' := [pw_i x]) rfl (fun _ => rfl) ?_
    refine pw_ld E (pc' := 70) (st' := [pw_i y, pw_i x]) rfl (fun _ => rfl) ?_
    refine pw_if2 E (pc' := 77) rfl (by decide) (by omega) (by omega) (by omega) (by omega) ?_ ?_
    · intro hc10
      have hc10 : y ≤ x := hc10
      refine pw_ld E (pc' := 78) (st' := [pw_i 0]) rfl (fun _ => rfl) ?_
      refine pw_iret E rfl ?_
      exact ⟨rfl, ⟨_, rfl, by omega, by omega⟩⟩
    · intro hc11
      have hc11 : ¬ (y ≤ x) := hc11
      refine pw_ld E (pc' := 74) (st' := [pw_i 1]) rfl (fun _ => rfl) ?_
      refine pw_goto E (pc' := 78) rfl (by decide) ?_
      refine pw_iret E rfl ?_
      exact ⟨rfl, ⟨_, rfl, by omega, by omega⟩⟩
  · refine pw_tswJ (o := 78) E (pc' := 79) rfl (by omega) (by omega) (by omega) (by rw [hs1]; rfl) (by decide) ?_
    refine pw_ld E (pc' := 80) (st' := [pw_i x]) rfl (fun _ => rfl) ?_
    refine pw_ld E (pc' := 81) (st' := [pw_i y, pw_i x]) rfl (fun _ => rfl) ?_
    refine pw_if2 E (pc' := 88) rfl (by decide) (by omega) (by omega) (by omega) (by omega) ?_ ?_
    · intro hc12
      have hc12 : x ≠ y := hc12
      refine pw_ld E (pc' := 89) (st' := [pw_i 0]) rfl (fun _ => rfl) ?_
      refine pw_iret E rfl ?_
      exact ⟨rfl, ⟨_, rfl, by omega, by omega⟩⟩
    · intro hc13
      have hc13 : ¬ (x ≠ y) := hc13
      refine pw_ld E (pc' := 85) (st' := [pw_i 1]) rfl (fun _ => rfl) ?_
      refine pw_goto E (pc' := 89) rfl (by decide) ?_
      refine pw_iret E rfl ?_
      exact ⟨rfl, ⟨_, rfl, by omega, by omega⟩⟩
  · refine pw_tswJ (o := 89) E (pc' := 90) rfl (by omega) (by omega) (by omega) (by rw [hs1]; rfl) (by decide) ?_
    refine pw_ld E (pc' := 91) (st' := [pw_i x]) rfl (fun _ => rfl) ?_
    refine pw_ld E (pc' := 92) (st' := [pw_i y, pw_i x]) rfl (fun _ => rfl) ?_
    refine pw_add E (pc' := 93) rfl rfl ?_
    refine pw_nm (fun x14 hx14a hx14b => ?_)
    refine pw_iret E rfl ?_
    exact ⟨rfl, ⟨_, rfl, by omega, by omega⟩⟩
  · refine pw_tswJ (o := 93) E (pc' := 94) rfl (by omega) (by omega) (by omega) (by rw [hs1]; rfl) (by decide) ?_
    refine pw_ld E (pc' := 95) (st' := [pw_i x]) rfl (fun _ => rfl) ?_
    refine pw_ld E (pc' := 96) (st' := [pw_i y, pw_i x]) rfl (fun _ => rfl) ?_
    refine pw_sub E (pc' := 97) rfl rfl ?_
    refine pw_nm (fun x15 hx15a hx15b => ?_)
    refine pw_iret E rfl ?_
    exact ⟨rfl, ⟨_, rfl, by omega, by omega⟩⟩
  · refine pw_tswD E (pc' := 98) rfl (by omega) (by omega) hs1 (by decide) ?_
    refine pw_ld E (pc' := 99) (st' := [pw_i x]) rfl (fun _ => rfl) ?_
    refine pw_ld E (pc' := 100) (st' := [pw_i y, pw_i x]) rfl (fun _ => rfl) ?_
    refine pw_mul E (pc' := 101) rfl rfl ?_
    refine pw_nm (fun x16 hx16a hx16b => ?_)
    refine pw_iret E rfl ?_
    exact ⟨rfl, ⟨_, rfl, by omega, by omega⟩⟩
set_option maxHeartbeats 4000000 in
theorem cm_76 {X : List (Nat × List Value)} {d : Nat} {h : pm_H} (hd : 2 ≤ d) (I : pw_I h) (c : Nat) (hc : pw_Sc c) (op : Int) (hop1 : (-2147483648) ≤ op) (hop2 : op ≤ 2147483647) (sz : Int) (hsz1 : 0 ≤ sz) (hsz2 : sz ≤ 40) : pw X d h 76 0 [some (.ref (16 + c)), some (pw_i op), some (pw_i sz)] [] (fun h' v => pw_I h' ∧ pw_E [c + 5] h h' ∧ ∃ a : Int, v = .inl (some (pw_i a)) ∧ 0 ≤ a ∧ a ≤ 40) := by
  have E : pm_ent 76 = some (3, 3, 7, 0, pmc_76) := rfl
  have E0 : pw_E [c + 5] h h := pw_E.rf _ _
  refine pw_ld E (pc' := 1) (st' := [pw_i op]) rfl (fun _ => rfl) ?_
  refine pw_bip E (pc' := 3) rfl rfl (by decide) ?_
  refine pw_if2 E (pc' := 37) rfl (by decide) (by omega) (by omega) (by decide) (by decide) ?_ ?_
  · intro hc1
    have hc1 : op ≠ (8 : Int) := hc1
    refine pw_ld E (pc' := 38) (st' := [pw_i sz]) rfl (fun _ => rfl) ?_
    refine pw_ld E (pc' := 39) (st' := [pw_i 2, pw_i sz]) rfl (fun _ => rfl) ?_
    refine pw_if2 E (pc' := 44) rfl (by decide) (by omega) (by omega) (by decide) (by decide) ?_ ?_
    · intro hc2
      have hc2 : (2 : Int) ≤ sz := hc2
      refine pw_ld E (pc' := 45) (st' := [.ref (16 + c)]) rfl (fun _ => rfl) ?_
      refine pw_getR (b := 16 + (c + 5)) I E (c := c) (k := 6) (pc' := 48) rfl rfl (pw_Sc_o hc) rfl rfl rfl rfl ?_
      refine pw_ld E (pc' := 49) (st' := [pw_i sz, .ref (16 + (c + 5))]) rfl (fun _ => rfl) ?_
      refine pw_ld E (pc' := 50) (st' := [pw_i 2, pw_i sz, .ref (16 + (c + 5))]) rfl (fun _ => rfl) ?_
      refine pw_sub E (pc' := 51) rfl rfl ?_
      refine pw_ld E (pc' := 52) (st' := [pw_i op, pw_i (sz - 2), .ref (16 + (c + 5))]) rfl (fun _ => rfl) ?_
      refine pw_ld E (pc' := 53) (st' := [.ref (16 + c), pw_i op, pw_i (sz - 2), .ref (16 + (c + 5))]) rfl (fun _ => rfl) ?_
      refine pw_getR (b := 16 + (c + 5)) I E (c := c) (k := 6) (pc' := 56) rfl rfl (pw_Sc_o hc) rfl rfl rfl rfl ?_
      refine pw_ld E (pc' := 57) (st' := [pw_i sz, .ref (16 + (c + 5)), pw_i op, pw_i (sz - 2), .ref (16 + (c + 5))]) rfl (fun _ => rfl) ?_
      refine pw_ld E (pc' := 58) (st' := [pw_i 2, pw_i sz, .ref (16 + (c + 5)), pw_i op, pw_i (sz - 2), .ref (16 + (c + 5))]) rfl (fun _ => rfl) ?_
      refine pw_sub E (pc' := 59) rfl rfl ?_
      refine pw_ald I E (c := c + 5) (pc' := 60) rfl rfl (pw_Sc_5 hc) (by decide) rfl (by decide) (by omega) (by omega) rfl (fun hf3a hf3b hf3c hf3d => ?_)
      refine pw_ld E (pc' := 61) (st' := [.ref (16 + c), pw_i (pw_g h (c + 5) ((sz - 2).toNat)), pw_i op, pw_i (sz - 2), .ref (16 + (c + 5))]) rfl (fun _ => rfl) ?_
      refine pw_getR (b := 16 + (c + 5)) I E (c := c) (k := 6) (pc' := 64) rfl rfl (pw_Sc_o hc) rfl rfl rfl rfl ?_
      refine pw_ld E (pc' := 65) (st' := [pw_i sz, .ref (16 + (c + 5)), pw_i (pw_g h (c + 5) ((sz - 2).toNat)), pw_i op, pw_i (sz - 2), .ref (16 + (c + 5))]) rfl (fun _ => rfl) ?_
      refine pw_ld E (pc' := 66) (st' := [pw_i 1, pw_i sz, .ref (16 + (c + 5)), pw_i (pw_g h (c + 5) ((sz - 2).toNat)), pw_i op, pw_i (sz - 2), .ref (16 + (c + 5))]) rfl (fun _ => rfl) ?_
      refine pw_sub E (pc' := 67) rfl rfl ?_
      refine pw_ald I E (c := c + 5) (pc' := 68) rfl rfl (pw_Sc_5 hc) (by decide) rfl (by decide) (by omega) (by omega) rfl (fun hf4a hf4b hf4c hf4d => ?_)
      refine pw_call (m' := 77) (As := [pw_i op, pw_i (pw_g h (c + 5) ((sz - 2).toNat)), pw_i (pw_g h (c + 5) ((sz - 1).toNat))]) (rest := [pw_i (sz - 2), .ref (16 + (c + 5))]) (ls'' := [some (pw_i op), some (pw_i (pw_g h (c + 5) ((sz - 2).toNat))), some (pw_i (pw_g h (c + 5) ((sz - 1).toNat)))]) (by omega) E rfl (fun _ => pw_iS rfl rfl rfl) (rfl : pm_ent 77 = some (3, 3, 7, 0, pmc_77)) rfl rfl (cm_77 (by omega) I (op) (by omega) (by omega) (pw_g h (c + 5) ((sz - 2).toNat)) (by omega) (by omega) (pw_g h (c + 5) ((sz - 1).toNat)) (by omega) (by omega)) ?_
      rintro u6 v5 ⟨rfl, x7, rfl, hx7a, hx7b⟩
      refine ⟨_, rfl, ?_⟩
      show pw X d h 76 71 [some (.ref (16 + c)), some (pw_i op), some (pw_i sz)] [pw_i x7, pw_i (sz - 2), .ref (16 + (c + 5))] _
      refine pw_ast0 I E (c := c + 5) (pc' := 72) rfl rfl (pw_Sc_5 hc) (by decide) rfl (by decide) (by omega) (by omega) rfl (by omega) (by omega) (by omega) (by omega) rfl ?_
      intro h8I h8E
      generalize h8w : pw_w h (c + 5) ((sz - 2).toNat) (pw_i x7) = h8 at h8I h8E ⊢
      have h8F := E0.tr (h8E.wk (W' := [c + 5]) (by first | rfl | simp))
      refine pw_ld E (pc' := 73) (st' := [pw_i sz]) rfl (fun _ => rfl) ?_
      refine pw_ld E (pc' := 74) (st' := [pw_i 1, pw_i sz]) rfl (fun _ => rfl) ?_
      refine pw_sub E (pc' := 75) rfl rfl ?_
      refine pw_iret E rfl ?_
      exact ⟨h8I, h8F, ⟨_, rfl, by omega, by omega⟩⟩
    · intro hc9
      have hc9 : ¬ ((2 : Int) ≤ sz) := hc9
      refine pw_ld E (pc' := 43) (st' := [pw_i sz]) rfl (fun _ => rfl) ?_
      refine pw_iret E rfl ?_
      exact ⟨I, E0, ⟨_, rfl, by omega, by omega⟩⟩
  · intro hc10
    have hc10 : ¬ (op ≠ (8 : Int)) := hc10
    refine pw_ld E (pc' := 7) (st' := [pw_i sz]) rfl (fun _ => rfl) ?_
    refine pw_ld E (pc' := 8) (st' := [pw_i 1, pw_i sz]) rfl (fun _ => rfl) ?_
    refine pw_if2 E (pc' := 35) rfl (by decide) (by omega) (by omega) (by decide) (by decide) ?_ ?_
    · intro hc11
      have hc11 : sz < (1 : Int) := hc11
      refine pw_ld E (pc' := 36) (st' := [pw_i sz]) rfl (fun _ => rfl) ?_
      refine pw_iret E rfl ?_
      exact ⟨I, E0, ⟨_, rfl, by omega, by omega⟩⟩
    · intro hc12
      have hc12 : ¬ (sz < (1 : Int)) := hc12
      refine pw_ld E (pc' := 12) (st' := [.ref (16 + c)]) rfl (fun _ => rfl) ?_
      refine pw_getR (b := 16 + (c + 5)) I E (c := c) (k := 6) (pc' := 15) rfl rfl (pw_Sc_o hc) rfl rfl rfl rfl ?_
      refine pw_ld E (pc' := 16) (st' := [pw_i sz, .ref (16 + (c + 5))]) rfl (fun _ => rfl) ?_
      refine pw_ld E (pc' := 17) (st' := [pw_i 1, pw_i sz, .ref (16 + (c + 5))]) rfl (fun _ => rfl) ?_
      refine pw_sub E (pc' := 18) rfl rfl ?_
      refine pw_ld E (pc' := 19) (st' := [.ref (16 + c), pw_i (sz - 1), .ref (16 + (c + 5))]) rfl (fun _ => rfl) ?_
      refine pw_getR (b := 16 + (c + 5)) I E (c := c) (k := 6) (pc' := 22) rfl rfl (pw_Sc_o hc) rfl rfl rfl rfl ?_
      refine pw_ld E (pc' := 23) (st' := [pw_i sz, .ref (16 + (c + 5)), pw_i (sz - 1), .ref (16 + (c + 5))]) rfl (fun _ => rfl) ?_
      refine pw_ld E (pc' := 24) (st' := [pw_i 1, pw_i sz, .ref (16 + (c + 5)), pw_i (sz - 1), .ref (16 + (c + 5))]) rfl (fun _ => rfl) ?_
      refine pw_sub E (pc' := 25) rfl rfl ?_
      refine pw_ald I E (c := c + 5) (pc' := 26) rfl rfl (pw_Sc_5 hc) (by decide) rfl (by decide) (by omega) (by omega) rfl (fun hf13a hf13b hf13c hf13d => ?_)
      refine pw_if E (pc' := 33) rfl (by decide) (by omega) (by omega) ?_ ?_
      · intro hc14
        have hc14 : pw_g h (c + 5) ((sz - 1).toNat) ≠ (0 : Int) := hc14
        refine pw_ld E (pc' := 34) (st' := [pw_i 0, pw_i (sz - 1), .ref (16 + (c + 5))]) rfl (fun _ => rfl) ?_
        refine pw_ast0 I E (c := c + 5) (pc' := 35) rfl rfl (pw_Sc_5 hc) (by decide) rfl (by decide) (by omega) (by omega) rfl (by omega) (by omega) (by omega) (by omega) rfl ?_
        intro h15I h15E
        generalize h15w : pw_w h (c + 5) ((sz - 1).toNat) (pw_i 0) = h15 at h15I h15E ⊢
        have h15F := E0.tr (h15E.wk (W' := [c + 5]) (by first | rfl | simp))
        refine pw_ld E (pc' := 36) (st' := [pw_i sz]) rfl (fun _ => rfl) ?_
        refine pw_iret E rfl ?_
        exact ⟨h15I, h15F, ⟨_, rfl, by omega, by omega⟩⟩
      · intro hc16
        have hc16 : ¬ (pw_g h (c + 5) ((sz - 1).toNat) ≠ (0 : Int)) := hc16
        refine pw_ld E (pc' := 30) (st' := [pw_i 1, pw_i (sz - 1), .ref (16 + (c + 5))]) rfl (fun _ => rfl) ?_
        refine pw_goto E (pc' := 34) rfl (by decide) ?_
        refine pw_ast0 I E (c := c + 5) (pc' := 35) rfl rfl (pw_Sc_5 hc) (by decide) rfl (by decide) (by omega) (by omega) rfl (by omega) (by omega) (by omega) (by omega) rfl ?_
        intro h17I h17E
        generalize h17w : pw_w h (c + 5) ((sz - 1).toNat) (pw_i 1) = h17 at h17I h17E ⊢
        have h17F := E0.tr (h17E.wk (W' := [c + 5]) (by first | rfl | simp))
        refine pw_ld E (pc' := 36) (st' := [pw_i sz]) rfl (fun _ => rfl) ?_
        refine pw_iret E rfl ?_
        exact ⟨h17I, h17F, ⟨_, rfl, by omega, by omega⟩⟩
set_option maxHeartbeats 4000000 in
theorem cm_78_95 {X : List (Nat × List Value)} {d : Nat} {h : pm_H} (hd : 1 ≤ d) (I : pw_I h) (wd : Int) (hwd1 : (-2147483648) ≤ wd) (hwd2 : wd ≤ 2147483647) : pw X d h 78 0 [some (pw_i wd), some (.ref 111), none] [] (fun h' v => h = h' ∧ ∃ a : Int, v = .inl (some (pw_i a)) ∧ (-2147483648) ≤ a ∧ a ≤ 2147483647) := by
  have E : pm_ent 78 = some (2, 3, 7, 0, pmc_78) := rfl
  refine pw_ld E (pc' := 1) (st' := [pw_i wd]) rfl (fun _ => rfl) ?_
  refine pw_sip E (pc' := 4) rfl rfl (by decide) ?_
  refine pw_sub E (pc' := 5) rfl rfl ?_
  refine pw_nm (fun x1 hx1a hx1b => ?_)
  refine pw_istn E (pc' := 6) (ls' := [some (pw_i wd), some (.ref 111), some (pw_i x1)]) rfl rfl rfl rfl ?_
  refine pw_ld E (pc' := 7) (st' := [pw_i x1]) rfl (fun _ => rfl) ?_
  refine pw_if E (pc' := 12) rfl (by decide) (by omega) (by omega) ?_ ?_
  · intro hc2
    have hc2 : (0 : Int) ≤ x1 := hc2
    refine pw_ld E (pc' := 13) (st' := [pw_i x1]) rfl (fun _ => rfl) ?_
    refine pw_ld E (pc' := 14) (st' := [.ref 111, pw_i x1]) rfl (fun _ => rfl) ?_
    obtain ⟨z3l, z3h, z3n, -⟩ := pw_arr (c := 95) I rfl
    refine pw_alen E (pc' := 15) rfl (pw_rowI z3h rfl) rfl rfl ?_
    rw [z3n]
    refine pw_if2 E (pc' := 24) rfl (by decide) (by omega) (by omega) (by decide) (by decide) ?_ ?_
    · intro hc4
      have hc4 : (9 : Nat) ≤ x1 := hc4
      refine pw_ld E (pc' := 25) (st' := [pw_i 0]) rfl (fun _ => rfl) ?_
      refine pw_iret E rfl ?_
      exact ⟨rfl, ⟨_, rfl, by omega, by omega⟩⟩
    · intro hc5
      have hc5 : ¬ ((9 : Nat) ≤ x1) := hc5
      refine pw_ld E (pc' := 19) (st' := [.ref 111]) rfl (fun _ => rfl) ?_
      refine pw_ld E (pc' := 20) (st' := [pw_i x1, .ref 111]) rfl (fun _ => rfl) ?_
      refine pw_ald I E (c := 95) (pc' := 21) rfl rfl rfl (by decide) rfl (by decide) (by omega) (by omega) rfl (fun hf6a hf6b hf6c hf6d => ?_)
      refine pw_goto E (pc' := 25) rfl (by decide) ?_
      refine pw_iret E rfl ?_
      exact ⟨rfl, ⟨_, rfl, by omega, by omega⟩⟩
  · intro hc7
    have hc7 : ¬ ((0 : Int) ≤ x1) := hc7
    refine pw_ld E (pc' := 11) (st' := [pw_i wd]) rfl (fun _ => rfl) ?_
    refine pw_iret E rfl ?_
    exact ⟨rfl, ⟨_, rfl, by omega, by omega⟩⟩
set_option maxHeartbeats 4000000 in
theorem cm_78_99 {X : List (Nat × List Value)} {d : Nat} {h : pm_H} (hd : 1 ≤ d) (I : pw_I h) (wd : Int) (hwd1 : (-2147483648) ≤ wd) (hwd2 : wd ≤ 2147483647) : pw X d h 78 0 [some (pw_i wd), some (.ref 115), none] [] (fun h' v => h = h' ∧ ∃ a : Int, v = .inl (some (pw_i a)) ∧ (-2147483648) ≤ a ∧ a ≤ 2147483647) := by
  have E : pm_ent 78 = some (2, 3, 7, 0, pmc_78) := rfl
  refine pw_ld E (pc' := 1) (st' := [pw_i wd]) rfl (fun _ => rfl) ?_
  refine pw_sip E (pc' := 4) rfl rfl (by decide) ?_
  refine pw_sub E (pc' := 5) rfl rfl ?_
  refine pw_nm (fun x1 hx1a hx1b => ?_)
  refine pw_istn E (pc' := 6) (ls' := [some (pw_i wd), some (.ref 115), some (pw_i x1)]) rfl rfl rfl rfl ?_
  refine pw_ld E (pc' := 7) (st' := [pw_i x1]) rfl (fun _ => rfl) ?_
  refine pw_if E (pc' := 12) rfl (by decide) (by omega) (by omega) ?_ ?_
  · intro hc2
    have hc2 : (0 : Int) ≤ x1 := hc2
    refine pw_ld E (pc' := 13) (st' := [pw_i x1]) rfl (fun _ => rfl) ?_
    refine pw_ld E (pc' := 14) (st' := [.ref 115, pw_i x1]) rfl (fun _ => rfl) ?_
    obtain ⟨z3l, z3h, z3n, -⟩ := pw_arr (c := 99) I rfl
    refine pw_alen E (pc' := 15) rfl (pw_rowI z3h rfl) rfl rfl ?_
    rw [z3n]
    refine pw_if2 E (pc' := 24) rfl (by decide) (by omega) (by omega) (by decide) (by decide) ?_ ?_
    · intro hc4
      have hc4 : (10 : Nat) ≤ x1 := hc4
      refine pw_ld E (pc' := 25) (st' := [pw_i 0]) rfl (fun _ => rfl) ?_
      refine pw_iret E rfl ?_
      exact ⟨rfl, ⟨_, rfl, by omega, by omega⟩⟩
    · intro hc5
      have hc5 : ¬ ((10 : Nat) ≤ x1) := hc5
      refine pw_ld E (pc' := 19) (st' := [.ref 115]) rfl (fun _ => rfl) ?_
      refine pw_ld E (pc' := 20) (st' := [pw_i x1, .ref 115]) rfl (fun _ => rfl) ?_
      refine pw_ald I E (c := 99) (pc' := 21) rfl rfl rfl (by decide) rfl (by decide) (by omega) (by omega) rfl (fun hf6a hf6b hf6c hf6d => ?_)
      refine pw_goto E (pc' := 25) rfl (by decide) ?_
      refine pw_iret E rfl ?_
      exact ⟨rfl, ⟨_, rfl, by omega, by omega⟩⟩
  · intro hc7
    have hc7 : ¬ ((0 : Int) ≤ x1) := hc7
    refine pw_ld E (pc' := 11) (st' := [pw_i wd]) rfl (fun _ => rfl) ?_
    refine pw_iret E rfl ?_
    exact ⟨rfl, ⟨_, rfl, by omega, by omega⟩⟩
set_option maxHeartbeats 4000000 in
theorem cm_75_95 {X : List (Nat × List Value)} {d : Nat} {h : pm_H} (hd : 3 ≤ d) (I : pw_I h) (c : Nat) (hc : pw_Sc c) (li : Int) (hli1 : 0 ≤ li) (hli2 : li ≤ 3) : pw X d h 75 0 [some (.ref (16 + c)), some (pw_i li), some (.ref 111), none, none, none] [] (fun h' v => pw_I h' ∧ pw_E [c + 5] h h' ∧ ∃ a : Int, v = .inl (some (pw_i a)) ∧ (-2147483648) ≤ a ∧ a ≤ 2147483647) := by
  have E : pm_ent 75 = some (3, 6, 7, 0, pmc_75) := rfl
  have E0 : pw_E [c + 5] h h := pw_E.rf _ _
  refine pw_ld E (pc' := 1) (st' := [pw_i 0]) rfl (fun _ => rfl) ?_
  refine pw_istn E (pc' := 2) (ls' := [some (.ref (16 + c)), some (pw_i li), some (.ref 111), some (pw_i 0), none, none]) rfl rfl rfl rfl ?_
  refine pw_ld E (pc' := 3) (st' := [.ref (16 + c)]) rfl (fun _ => rfl) ?_
  refine pw_getR (b := 16 + (c + 2)) I E (c := c) (k := 3) (pc' := 6) rfl rfl (pw_Sc_o hc) rfl rfl rfl rfl ?_
  refine pw_ld E (pc' := 7) (st' := [pw_i li, .ref (16 + (c + 2))]) rfl (fun _ => rfl) ?_
  refine pw_ald I E (c := c + 2) (pc' := 8) rfl rfl (pw_Sc_2 hc) (by decide) rfl (by decide) (by omega) (by omega) rfl (fun hf1a hf1b hf1c hf1d => ?_)
  refine pw_ist E (pc' := 10) (ls' := [some (.ref (16 + c)), some (pw_i li), some (.ref 111), some (pw_i 0), some (pw_i (pw_g h (c + 2) (li.toNat))), none]) rfl rfl rfl rfl ?_
  have L10 : ∀ (n10 : Nat) (k10_3 : Int) (k10_4 : Int) (k10_5 : Option Value) (h10 : pm_H), pw_I h10 → pw_E [c + 5] h h10 → 0 ≤ k10_3 → k10_3 ≤ 40 → 0 ≤ k10_4 → k10_4 ≤ 1000 → (1000 - k10_4).toNat = n10 → pw X d h10 75 10 [some (.ref (16 + c)), some (pw_i li), some (.ref 111), some (pw_i k10_3), some (pw_i k10_4), k10_5] [] (fun h' v => pw_I h' ∧ pw_E [c + 5] h h' ∧ ∃ a : Int, v = .inl (some (pw_i a)) ∧ (-2147483648) ≤ a ∧ a ≤ 2147483647) := by
    intro n10
    induction n10 using Nat.strongRecOn with
    | ind n10 ih10 =>
      intro k10_3 k10_4 k10_5 h10 I10 E10 k10_3a k10_3b k10_4a k10_4b hm10
      refine pw_ld E (pc' := 12) (st' := [pw_i k10_4]) rfl (fun _ => rfl) ?_
      refine pw_ld E (pc' := 13) (st' := [.ref (16 + c), pw_i k10_4]) rfl (fun _ => rfl) ?_
      refine pw_getR (b := 16 + (c + 3)) I10 E (c := c) (k := 4) (pc' := 16) rfl rfl (pw_Sc_o hc) rfl rfl rfl rfl ?_
      refine pw_ld E (pc' := 17) (st' := [pw_i li, .ref (16 + (c + 3)), pw_i k10_4]) rfl (fun _ => rfl) ?_
      refine pw_ald I10 E (c := c + 3) (pc' := 18) rfl rfl (pw_Sc_3 hc) (by decide) rfl (by decide) (by omega) (by omega) rfl (fun hf2a hf2b hf2c hf2d => ?_)
      refine pw_if2 E (pc' := 84) rfl (by decide) (by omega) (by omega) (by omega) (by omega) ?_ ?_
      · intro hc3
        have hc3 : pw_g h10 (c + 3) (li.toNat) ≤ k10_4 := hc3
        refine pw_ld E (pc' := 85) (st' := [.ref (16 + c)]) rfl (fun _ => rfl) ?_
        refine pw_getR (b := 16 + (c + 5)) I10 E (c := c) (k := 6) (pc' := 88) rfl rfl (pw_Sc_o hc) rfl rfl rfl rfl ?_
        refine pw_ld E (pc' := 89) (st' := [pw_i 0, .ref (16 + (c + 5))]) rfl (fun _ => rfl) ?_
        refine pw_ald I10 E (c := c + 5) (pc' := 90) rfl rfl (pw_Sc_5 hc) (by decide) rfl (by decide) (by omega) (by omega) rfl (fun hf4a hf4b hf4c hf4d => ?_)
        refine pw_iret E rfl ?_
        exact ⟨I10, E10, ⟨_, rfl, by omega, by omega⟩⟩
      · intro hc5
        have hc5 : ¬ (pw_g h10 (c + 3) (li.toNat) ≤ k10_4) := hc5
        refine pw_ld E (pc' := 23) (st' := [pw_i k10_4]) rfl (fun _ => rfl) ?_
        refine pw_ld E (pc' := 24) (st' := [.ref (16 + c), pw_i k10_4]) rfl (fun _ => rfl) ?_
        obtain ⟨q6f, _, q61, q62, -, q6, q6l, rfl, q6h, q6n, q6i⟩ := pw_fld (c := c) (k := 0) I10 (pw_Sc_o hc) rfl
        refine pw_get0 E (c := c) (pc' := 27) rfl rfl q61 q62 rfl rfl ?_
        refine pw_alen E (pc' := 28) rfl (pw_rowI q6h rfl) rfl rfl ?_
        refine pw_if2 E (pc' := 84) rfl (by decide) (by omega) (by omega) (by omega) (by omega) ?_ ?_
        · intro hc7
          have hc7 : (q6l.length : Int) ≤ k10_4 := hc7
          refine pw_ld E (pc' := 85) (st' := [.ref (16 + c)]) rfl (fun _ => rfl) ?_
          refine pw_getR (b := 16 + (c + 5)) I10 E (c := c) (k := 6) (pc' := 88) rfl rfl (pw_Sc_o hc) rfl rfl rfl rfl ?_
          refine pw_ld E (pc' := 89) (st' := [pw_i 0, .ref (16 + (c + 5))]) rfl (fun _ => rfl) ?_
          refine pw_ald I10 E (c := c + 5) (pc' := 90) rfl rfl (pw_Sc_5 hc) (by decide) rfl (by decide) (by omega) (by omega) rfl (fun hf8a hf8b hf8c hf8d => ?_)
          refine pw_iret E rfl ?_
          exact ⟨I10, E10, ⟨_, rfl, by omega, by omega⟩⟩
        · intro hc9
          have hc9 : ¬ ((q6l.length : Int) ≤ k10_4) := hc9
          refine pw_ld E (pc' := 32) (st' := [.ref (16 + c)]) rfl (fun _ => rfl) ?_
          refine pw_get0 E (c := c) (pc' := 35) rfl rfl q61 q62 rfl rfl ?_
          refine pw_ld E (pc' := 37) (st' := [pw_i k10_4, .ref (16 + q6)]) rfl (fun _ => rfl) ?_
          refine pw_cald E (pc' := 38) rfl q6h q6i rfl q6n (by omega) (by omega) rfl (fun x10 hx10a hx10b => ?_)
          refine pw_ist E (pc' := 40) (ls' := [some (.ref (16 + c)), some (pw_i li), some (.ref 111), some (pw_i k10_3), some (pw_i k10_4), some (pw_i x10)]) rfl rfl rfl rfl ?_
          refine pw_ld E (pc' := 42) (st' := [pw_i x10]) rfl (fun _ => rfl) ?_
          refine pw_if E (pc' := 57) rfl (by decide) (by omega) (by omega) ?_ ?_
          · intro hc11
            have hc11 : (0 : Int) ≤ x10 := hc11
            refine pw_ld E (pc' := 58) (st' := [pw_i k10_3]) rfl (fun _ => rfl) ?_
            refine pw_bip E (pc' := 60) rfl rfl (by decide) ?_
            refine pw_if2 E (pc' := 78) rfl (by decide) (by omega) (by omega) (by decide) (by decide) ?_ ?_
            · intro hc12
              have hc12 : (40 : Int) ≤ k10_3 := hc12
              refine pw_inc E (pc' := 81) (ls' := [some (.ref (16 + c)), some (pw_i li), some (.ref 111), some (pw_i k10_3), some (pw_i (k10_4 + 1)), some (pw_i x10)]) rfl rfl rfl rfl ?_
              refine pw_goto E (pc' := 10) rfl (by decide) ?_
              exact ih10 _ (by omega) (k10_3) (k10_4 + 1) (some (pw_i x10)) h10 I10 E10 (by omega) (by omega) (by omega) (by omega)  rfl
            · intro hc13
              have hc13 : ¬ ((40 : Int) ≤ k10_3) := hc13
              refine pw_ld E (pc' := 64) (st' := [.ref (16 + c)]) rfl (fun _ => rfl) ?_
              refine pw_getR (b := 16 + (c + 5)) I10 E (c := c) (k := 6) (pc' := 67) rfl rfl (pw_Sc_o hc) rfl rfl rfl rfl ?_
              refine pw_ld E (pc' := 68) (st' := [pw_i k10_3, .ref (16 + (c + 5))]) rfl (fun _ => rfl) ?_
              refine pw_ld E (pc' := 70) (st' := [pw_i x10, pw_i k10_3, .ref (16 + (c + 5))]) rfl (fun _ => rfl) ?_
              refine pw_ld E (pc' := 71) (st' := [.ref 111, pw_i x10, pw_i k10_3, .ref (16 + (c + 5))]) rfl (fun _ => rfl) ?_
              refine pw_call (m' := 78) (As := [pw_i x10, .ref 111]) (rest := [pw_i k10_3, .ref (16 + (c + 5))]) (ls'' := [some (pw_i x10), some (.ref 111), none]) (by omega) E rfl (fun _ => pw_iS rfl rfl rfl) (rfl : pm_ent 78 = some (2, 3, 7, 0, pmc_78)) rfl rfl (cm_78_95 (by omega) I10 (x10) (by omega) (by omega)) ?_
              rintro u15 v14 ⟨rfl, x16, rfl, hx16a, hx16b⟩
              refine ⟨_, rfl, ?_⟩
              show pw X d h10 75 74 [some (.ref (16 + c)), some (pw_i li), some (.ref 111), some (pw_i k10_3), some (pw_i k10_4), some (pw_i x10)] [pw_i x16, pw_i k10_3, .ref (16 + (c + 5))] _
              refine pw_ast0 I10 E (c := c + 5) (pc' := 75) rfl rfl (pw_Sc_5 hc) (by decide) rfl (by decide) (by omega) (by omega) rfl (by omega) (by omega) (by omega) (by omega) rfl ?_
              intro h17I h17E
              generalize h17w : pw_w h10 (c + 5) (k10_3.toNat) (pw_i x16) = h17 at h17I h17E ⊢
              have h17F := E10.tr (h17E.wk (W' := [c + 5]) (by first | rfl | simp))
              refine pw_inc E (pc' := 78) (ls' := [some (.ref (16 + c)), some (pw_i li), some (.ref 111), some (pw_i (k10_3 + 1)), some (pw_i k10_4), some (pw_i x10)]) rfl rfl rfl rfl ?_
              refine pw_inc E (pc' := 81) (ls' := [some (.ref (16 + c)), some (pw_i li), some (.ref 111), some (pw_i (k10_3 + 1)), some (pw_i (k10_4 + 1)), some (pw_i x10)]) rfl rfl rfl rfl ?_
              refine pw_goto E (pc' := 10) rfl (by decide) ?_
              exact ih10 _ (by omega) (k10_3 + 1) (k10_4 + 1) (some (pw_i x10)) h17 h17I h17F (by omega) (by omega) (by omega) (by omega)  rfl
          · intro hc18
            have hc18 : ¬ ((0 : Int) ≤ x10) := hc18
            refine pw_ld E (pc' := 46) (st' := [.ref (16 + c)]) rfl (fun _ => rfl) ?_
            refine pw_ld E (pc' := 48) (st' := [pw_i x10, .ref (16 + c)]) rfl (fun _ => rfl) ?_
            refine pw_ineg E (pc' := 49) rfl rfl ?_
            refine pw_nm (fun x19 hx19a hx19b => ?_)
            refine pw_ld E (pc' := 50) (st' := [pw_i k10_3, pw_i x19, .ref (16 + c)]) rfl (fun _ => rfl) ?_
            obtain ⟨f20l, f20h, -⟩ := pw_obj (c := c) I10 (pw_Sc_o hc)
            refine pw_call (m' := 76) (As := [.ref (16 + c), pw_i x19, pw_i k10_3]) (rest := []) (ls'' := [some (.ref (16 + c)), some (pw_i x19), some (pw_i k10_3)]) (by omega) E rfl (fun _ => pw_iV rfl rfl rfl rfl (pw_cellI f20h rfl)) (rfl : pm_ent 76 = some (3, 3, 7, 0, pmc_76)) rfl rfl (cm_76 (by omega) I10 c hc (x19) (by omega) (by omega) (k10_3) (by omega) (by omega)) ?_
            rintro h21 v22 ⟨h21I, h21E, x23, rfl, hx23a, hx23b⟩
            refine ⟨_, rfl, ?_⟩
            have h21F := E10.tr (h21E.wk (W' := [c + 5]) (by first | rfl | simp))
            show pw X d h21 75 53 [some (.ref (16 + c)), some (pw_i li), some (.ref 111), some (pw_i k10_3), some (pw_i k10_4), some (pw_i x10)] [pw_i x23] _
            refine pw_istn E (pc' := 54) (ls' := [some (.ref (16 + c)), some (pw_i li), some (.ref 111), some (pw_i x23), some (pw_i k10_4), some (pw_i x10)]) rfl rfl rfl rfl ?_
            refine pw_goto E (pc' := 78) rfl (by decide) ?_
            refine pw_inc E (pc' := 81) (ls' := [some (.ref (16 + c)), some (pw_i li), some (.ref 111), some (pw_i x23), some (pw_i (k10_4 + 1)), some (pw_i x10)]) rfl rfl rfl rfl ?_
            refine pw_goto E (pc' := 10) rfl (by decide) ?_
            exact ih10 _ (by omega) (x23) (k10_4 + 1) (some (pw_i x10)) h21 h21I h21F (by omega) (by omega) (by omega) (by omega)  rfl
  exact L10 _ (0) (pw_g h (c + 2) (li.toNat)) (none) h I E0 (by omega) (by omega) (by omega) (by omega)  rfl
set_option maxHeartbeats 4000000 in
theorem cm_75_99 {X : List (Nat × List Value)} {d : Nat} {h : pm_H} (hd : 3 ≤ d) (I : pw_I h) (c : Nat) (hc : pw_Sc c) (li : Int) (hli1 : 0 ≤ li) (hli2 : li ≤ 3) : pw X d h 75 0 [some (.ref (16 + c)), some (pw_i li), some (.ref 115), none, none, none] [] (fun h' v => pw_I h' ∧ pw_E [c + 5] h h' ∧ ∃ a : Int, v = .inl (some (pw_i a)) ∧ (-2147483648) ≤ a ∧ a ≤ 2147483647) := by
  have E : pm_ent 75 = some (3, 6, 7, 0, pmc_75) := rfl
  have E0 : pw_E [c + 5] h h := pw_E.rf _ _
  refine pw_ld E (pc' := 1) (st' := [pw_i 0]) rfl (fun _ => rfl) ?_
  refine pw_istn E (pc' := 2) (ls' := [some (.ref (16 + c)), some (pw_i li), some (.ref 115), some (pw_i 0), none, none]) rfl rfl rfl rfl ?_
  refine pw_ld E (pc' := 3) (st' := [.ref (16 + c)]) rfl (fun _ => rfl) ?_
  refine pw_getR (b := 16 + (c + 2)) I E (c := c) (k := 3) (pc' := 6) rfl rfl (pw_Sc_o hc) rfl rfl rfl rfl ?_
  refine pw_ld E (pc' := 7) (st' := [pw_i li, .ref (16 + (c + 2))]) rfl (fun _ => rfl) ?_
  refine pw_ald I E (c := c + 2) (pc' := 8) rfl rfl (pw_Sc_2 hc) (by decide) rfl (by decide) (by omega) (by omega) rfl (fun hf1a hf1b hf1c hf1d => ?_)
  refine pw_ist E (pc' := 10) (ls' := [some (.ref (16 + c)), some (pw_i li), some (.ref 115), some (pw_i 0), some (pw_i (pw_g h (c + 2) (li.toNat))), none]) rfl rfl rfl rfl ?_
  have L10 : ∀ (n10 : Nat) (k10_3 : Int) (k10_4 : Int) (k10_5 : Option Value) (h10 : pm_H), pw_I h10 → pw_E [c + 5] h h10 → 0 ≤ k10_3 → k10_3 ≤ 40 → 0 ≤ k10_4 → k10_4 ≤ 1000 → (1000 - k10_4).toNat = n10 → pw X d h10 75 10 [some (.ref (16 + c)), some (pw_i li), some (.ref 115), some (pw_i k10_3), some (pw_i k10_4), k10_5] [] (fun h' v => pw_I h' ∧ pw_E [c + 5] h h' ∧ ∃ a : Int, v = .inl (some (pw_i a)) ∧ (-2147483648) ≤ a ∧ a ≤ 2147483647) := by
    intro n10
    induction n10 using Nat.strongRecOn with
    | ind n10 ih10 =>
      intro k10_3 k10_4 k10_5 h10 I10 E10 k10_3a k10_3b k10_4a k10_4b hm10
      refine pw_ld E (pc' := 12) (st' := [pw_i k10_4]) rfl (fun _ => rfl) ?_
      refine pw_ld E (pc' := 13) (st' := [.ref (16 + c), pw_i k10_4]) rfl (fun _ => rfl) ?_
      refine pw_getR (b := 16 + (c + 3)) I10 E (c := c) (k := 4) (pc' := 16) rfl rfl (pw_Sc_o hc) rfl rfl rfl rfl ?_
      refine pw_ld E (pc' := 17) (st' := [pw_i li, .ref (16 + (c + 3)), pw_i k10_4]) rfl (fun _ => rfl) ?_
      refine pw_ald I10 E (c := c + 3) (pc' := 18) rfl rfl (pw_Sc_3 hc) (by decide) rfl (by decide) (by omega) (by omega) rfl (fun hf2a hf2b hf2c hf2d => ?_)
      refine pw_if2 E (pc' := 84) rfl (by decide) (by omega) (by omega) (by omega) (by omega) ?_ ?_
      · intro hc3
        have hc3 : pw_g h10 (c + 3) (li.toNat) ≤ k10_4 := hc3
        refine pw_ld E (pc' := 85) (st' := [.ref (16 + c)]) rfl (fun _ => rfl) ?_
        refine pw_getR (b := 16 + (c + 5)) I10 E (c := c) (k := 6) (pc' := 88) rfl rfl (pw_Sc_o hc) rfl rfl rfl rfl ?_
        refine pw_ld E (pc' := 89) (st' := [pw_i 0, .ref (16 + (c + 5))]) rfl (fun _ => rfl) ?_
        refine pw_ald I10 E (c := c + 5) (pc' := 90) rfl rfl (pw_Sc_5 hc) (by decide) rfl (by decide) (by omega) (by omega) rfl (fun hf4a hf4b hf4c hf4d => ?_)
        refine pw_iret E rfl ?_
        exact ⟨I10, E10, ⟨_, rfl, by omega, by omega⟩⟩
      · intro hc5
        have hc5 : ¬ (pw_g h10 (c + 3) (li.toNat) ≤ k10_4) := hc5
        refine pw_ld E (pc' := 23) (st' := [pw_i k10_4]) rfl (fun _ => rfl) ?_
        refine pw_ld E (pc' := 24) (st' := [.ref (16 + c), pw_i k10_4]) rfl (fun _ => rfl) ?_
        obtain ⟨q6f, _, q61, q62, -, q6, q6l, rfl, q6h, q6n, q6i⟩ := pw_fld (c := c) (k := 0) I10 (pw_Sc_o hc) rfl
        refine pw_get0 E (c := c) (pc' := 27) rfl rfl q61 q62 rfl rfl ?_
        refine pw_alen E (pc' := 28) rfl (pw_rowI q6h rfl) rfl rfl ?_
        refine pw_if2 E (pc' := 84) rfl (by decide) (by omega) (by omega) (by omega) (by omega) ?_ ?_
        · intro hc7
          have hc7 : (q6l.length : Int) ≤ k10_4 := hc7
          refine pw_ld E (pc' := 85) (st' := [.ref (16 + c)]) rfl (fun _ => rfl) ?_
          refine pw_getR (b := 16 + (c + 5)) I10 E (c := c) (k := 6) (pc' := 88) rfl rfl (pw_Sc_o hc) rfl rfl rfl rfl ?_
          refine pw_ld E (pc' := 89) (st' := [pw_i 0, .ref (16 + (c + 5))]) rfl (fun _ => rfl) ?_
          refine pw_ald I10 E (c := c + 5) (pc' := 90) rfl rfl (pw_Sc_5 hc) (by decide) rfl (by decide) (by omega) (by omega) rfl (fun hf8a hf8b hf8c hf8d => ?_)
          refine pw_iret E rfl ?_
          exact ⟨I10, E10, ⟨_, rfl, by omega, by omega⟩⟩
        · intro hc9
          have hc9 : ¬ ((q6l.length : Int) ≤ k10_4) := hc9
          refine pw_ld E (pc' := 32) (st' := [.ref (16 + c)]) rfl (fun _ => rfl) ?_
          refine pw_get0 E (c := c) (pc' := 35) rfl rfl q61 q62 rfl rfl ?_
          refine pw_ld E (pc' := 37) (st' := [pw_i k10_4, .ref (16 + q6)]) rfl (fun _ => rfl) ?_
          refine pw_cald E (pc' := 38) rfl q6h q6i rfl q6n (by omega) (by omega) rfl (fun x10 hx10a hx10b => ?_)
          refine pw_ist E (pc' := 40) (ls' := [some (.ref (16 + c)), some (pw_i li), some (.ref 115), some (pw_i k10_3), some (pw_i k10_4), some (pw_i x10)]) rfl rfl rfl rfl ?_
          refine pw_ld E (pc' := 42) (st' := [pw_i x10]) rfl (fun _ => rfl) ?_
          refine pw_if E (pc' := 57) rfl (by decide) (by omega) (by omega) ?_ ?_
          · intro hc11
            have hc11 : (0 : Int) ≤ x10 := hc11
            refine pw_ld E (pc' := 58) (st' := [pw_i k10_3]) rfl (fun _ => rfl) ?_
            refine pw_bip E (pc' := 60) rfl rfl (by decide) ?_
            refine pw_if2 E (pc' := 78) rfl (by decide) (by omega) (by omega) (by decide) (by decide) ?_ ?_
            · intro hc12
              have hc12 : (40 : Int) ≤ k10_3 := hc12
              refine pw_inc E (pc' := 81) (ls' := [some (.ref (16 + c)), some (pw_i li), some (.ref 115), some (pw_i k10_3), some (pw_i (k10_4 + 1)), some (pw_i x10)]) rfl rfl rfl rfl ?_
              refine pw_goto E (pc' := 10) rfl (by decide) ?_
              exact ih10 _ (by omega) (k10_3) (k10_4 + 1) (some (pw_i x10)) h10 I10 E10 (by omega) (by omega) (by omega) (by omega)  rfl
            · intro hc13
              have hc13 : ¬ ((40 : Int) ≤ k10_3) := hc13
              refine pw_ld E (pc' := 64) (st' := [.ref (16 + c)]) rfl (fun _ => rfl) ?_
              refine pw_getR (b := 16 + (c + 5)) I10 E (c := c) (k := 6) (pc' := 67) rfl rfl (pw_Sc_o hc) rfl rfl rfl rfl ?_
              refine pw_ld E (pc' := 68) (st' := [pw_i k10_3, .ref (16 + (c + 5))]) rfl (fun _ => rfl) ?_
              refine pw_ld E (pc' := 70) (st' := [pw_i x10, pw_i k10_3, .ref (16 + (c + 5))]) rfl (fun _ => rfl) ?_
              refine pw_ld E (pc' := 71) (st' := [.ref 115, pw_i x10, pw_i k10_3, .ref (16 + (c + 5))]) rfl (fun _ => rfl) ?_
              refine pw_call (m' := 78) (As := [pw_i x10, .ref 115]) (rest := [pw_i k10_3, .ref (16 + (c + 5))]) (ls'' := [some (pw_i x10), some (.ref 115), none]) (by omega) E rfl (fun _ => pw_iS rfl rfl rfl) (rfl : pm_ent 78 = some (2, 3, 7, 0, pmc_78)) rfl rfl (cm_78_99 (by omega) I10 (x10) (by omega) (by omega)) ?_
              rintro u15 v14 ⟨rfl, x16, rfl, hx16a, hx16b⟩
              refine ⟨_, rfl, ?_⟩
              show pw X d h10 75 74 [some (.ref (16 + c)), some (pw_i li), some (.ref 115), some (pw_i k10_3), some (pw_i k10_4), some (pw_i x10)] [pw_i x16, pw_i k10_3, .ref (16 + (c + 5))] _
              refine pw_ast0 I10 E (c := c + 5) (pc' := 75) rfl rfl (pw_Sc_5 hc) (by decide) rfl (by decide) (by omega) (by omega) rfl (by omega) (by omega) (by omega) (by omega) rfl ?_
              intro h17I h17E
              generalize h17w : pw_w h10 (c + 5) (k10_3.toNat) (pw_i x16) = h17 at h17I h17E ⊢
              have h17F := E10.tr (h17E.wk (W' := [c + 5]) (by first | rfl | simp))
              refine pw_inc E (pc' := 78) (ls' := [some (.ref (16 + c)), some (pw_i li), some (.ref 115), some (pw_i (k10_3 + 1)), some (pw_i k10_4), some (pw_i x10)]) rfl rfl rfl rfl ?_
              refine pw_inc E (pc' := 81) (ls' := [some (.ref (16 + c)), some (pw_i li), some (.ref 115), some (pw_i (k10_3 + 1)), some (pw_i (k10_4 + 1)), some (pw_i x10)]) rfl rfl rfl rfl ?_
              refine pw_goto E (pc' := 10) rfl (by decide) ?_
              exact ih10 _ (by omega) (k10_3 + 1) (k10_4 + 1) (some (pw_i x10)) h17 h17I h17F (by omega) (by omega) (by omega) (by omega)  rfl
          · intro hc18
            have hc18 : ¬ ((0 : Int) ≤ x10) := hc18
            refine pw_ld E (pc' := 46) (st' := [.ref (16 + c)]) rfl (fun _ => rfl) ?_
            refine pw_ld E (pc' := 48) (st' := [pw_i x10, .ref (16 + c)]) rfl (fun _ => rfl) ?_
            refine pw_ineg E (pc' := 49) rfl rfl ?_
            refine pw_nm (fun x19 hx19a hx19b => ?_)
            refine pw_ld E (pc' := 50) (st' := [pw_i k10_3, pw_i x19, .ref (16 + c)]) rfl (fun _ => rfl) ?_
            obtain ⟨f20l, f20h, -⟩ := pw_obj (c := c) I10 (pw_Sc_o hc)
            refine pw_call (m' := 76) (As := [.ref (16 + c), pw_i x19, pw_i k10_3]) (rest := []) (ls'' := [some (.ref (16 + c)), some (pw_i x19), some (pw_i k10_3)]) (by omega) E rfl (fun _ => pw_iV rfl rfl rfl rfl (pw_cellI f20h rfl)) (rfl : pm_ent 76 = some (3, 3, 7, 0, pmc_76)) rfl rfl (cm_76 (by omega) I10 c hc (x19) (by omega) (by omega) (k10_3) (by omega) (by omega)) ?_
            rintro h21 v22 ⟨h21I, h21E, x23, rfl, hx23a, hx23b⟩
            refine ⟨_, rfl, ?_⟩
            have h21F := E10.tr (h21E.wk (W' := [c + 5]) (by first | rfl | simp))
            show pw X d h21 75 53 [some (.ref (16 + c)), some (pw_i li), some (.ref 115), some (pw_i k10_3), some (pw_i k10_4), some (pw_i x10)] [pw_i x23] _
            refine pw_istn E (pc' := 54) (ls' := [some (.ref (16 + c)), some (pw_i li), some (.ref 115), some (pw_i x23), some (pw_i k10_4), some (pw_i x10)]) rfl rfl rfl rfl ?_
            refine pw_goto E (pc' := 78) rfl (by decide) ?_
            refine pw_inc E (pc' := 81) (ls' := [some (.ref (16 + c)), some (pw_i li), some (.ref 115), some (pw_i x23), some (pw_i (k10_4 + 1)), some (pw_i x10)]) rfl rfl rfl rfl ?_
            refine pw_goto E (pc' := 10) rfl (by decide) ?_
            exact ih10 _ (by omega) (x23) (k10_4 + 1) (some (pw_i x10)) h21 h21I h21F (by omega) (by omega) (by omega) (by omega)  rfl
  exact L10 _ (0) (pw_g h (c + 2) (li.toNat)) (none) h I E0 (by omega) (by omega) (by omega) (by omega)  rfl
set_option maxHeartbeats 4000000 in
theorem cm_74_99 {X : List (Nat × List Value)} {d : Nat} {h : pm_H} (hd : 4 ≤ d) (I : pw_I h) (c : Nat) (hc : pw_Sc c) (li : Int) (hli1 : 0 ≤ li) (hli2 : li ≤ 3) (wo : Int) (hwo1 : (-2147483648) ≤ wo) (hwo2 : wo ≤ 2147483647) : pw X d h 74 0 [some (.ref (16 + c)), some (pw_i li), some (.ref 115), some (pw_i wo)] [] (fun h' v => pw_I h' ∧ pw_E [c + 5] h h' ∧ ∃ a : Int, v = .inl (some (pw_i a)) ∧ (-2147483648) ≤ a ∧ a ≤ 2147483647) := by
  have E : pm_ent 74 = some (4, 4, 7, 0, pmc_74) := rfl
  have E0 : pw_E [c + 5] h h := pw_E.rf _ _
  refine pw_ld E (pc' := 1) (st' := [.ref (16 + c)]) rfl (fun _ => rfl) ?_
  refine pw_getR (b := 16 + (c + 1)) I E (c := c) (k := 2) (pc' := 4) rfl rfl (pw_Sc_o hc) rfl rfl rfl rfl ?_
  refine pw_ld E (pc' := 5) (st' := [pw_i li, .ref (16 + (c + 1))]) rfl (fun _ => rfl) ?_
  refine pw_ald I E (c := c + 1) (pc' := 6) rfl rfl (pw_Sc_1 hc) (by decide) rfl (by decide) (by omega) (by omega) rfl (fun hf1a hf1b hf1c hf1d => ?_)
  refine pw_if E (pc' := 18) rfl (by decide) (by omega) (by omega) ?_ ?_
  · intro hc2
    have hc2 : pw_g h (c + 1) (li.toNat) = (0 : Int) := hc2
    refine pw_ld E (pc' := 19) (st' := [pw_i wo]) rfl (fun _ => rfl) ?_
    refine pw_iret E rfl ?_
    exact ⟨I, E0, ⟨_, rfl, by omega, by omega⟩⟩
  · intro hc3
    have hc3 : ¬ (pw_g h (c + 1) (li.toNat) = (0 : Int)) := hc3
    refine pw_ld E (pc' := 10) (st' := [.ref (16 + c)]) rfl (fun _ => rfl) ?_
    refine pw_ld E (pc' := 11) (st' := [pw_i li, .ref (16 + c)]) rfl (fun _ => rfl) ?_
    refine pw_ld E (pc' := 12) (st' := [.ref 115, pw_i li, .ref (16 + c)]) rfl (fun _ => rfl) ?_
    obtain ⟨f4l, f4h, -⟩ := pw_obj (c := c) I (pw_Sc_o hc)
    refine pw_call (m' := 75) (As := [.ref (16 + c), pw_i li, .ref 115]) (rest := []) (ls'' := [some (.ref (16 + c)), some (pw_i li), some (.ref 115), none, none, none]) (by omega) E rfl (fun _ => pw_iV rfl rfl rfl rfl (pw_cellI f4h rfl)) (rfl : pm_ent 75 = some (3, 6, 7, 0, pmc_75)) rfl rfl (cm_75_99 (by omega) I c hc (li) (by omega) (by omega)) ?_
    rintro h5 v6 ⟨h5I, h5E, x7, rfl, hx7a, hx7b⟩
    refine ⟨_, rfl, ?_⟩
    have h5F := E0.tr (h5E.wk (W' := [c + 5]) (by first | rfl | simp))
    show pw X d h5 74 15 [some (.ref (16 + c)), some (pw_i li), some (.ref 115), some (pw_i wo)] [pw_i x7] _
    refine pw_goto E (pc' := 19) rfl (by decide) ?_
    refine pw_iret E rfl ?_
    exact ⟨h5I, h5F, ⟨_, rfl, by omega, by omega⟩⟩
set_option maxHeartbeats 4000000 in
theorem cm_79 {X : List (Nat × List Value)} {d : Nat} {h : pm_H} (hd : 1 ≤ d) (I : pw_I h) (c : Nat) (hc : pw_Sc c) (li : Int) (hli1 : 0 ≤ li) (hli2 : li ≤ 3) (wo : Int) (hwo1 : 0 ≤ wo) (hwo2 : wo ≤ 11) : pw X d h 79 0 [some (.ref (16 + c)), some (pw_i li), some (pw_i wo)] [] (fun h' v => h = h' ∧ ∃ a : Int, v = .inl (some (pw_i a)) ∧ 0 ≤ a ∧ a ≤ 11) := by
  have E : pm_ent 79 = some (3, 3, 7, 0, pmc_79) := rfl
  refine pw_ld E (pc' := 1) (st' := [.ref (16 + c)]) rfl (fun _ => rfl) ?_
  refine pw_getR (b := 16 + (c + 1)) I E (c := c) (k := 2) (pc' := 4) rfl rfl (pw_Sc_o hc) rfl rfl rfl rfl ?_
  refine pw_ld E (pc' := 5) (st' := [pw_i li, .ref (16 + (c + 1))]) rfl (fun _ => rfl) ?_
  refine pw_ald I E (c := c + 1) (pc' := 6) rfl rfl (pw_Sc_1 hc) (by decide) rfl (by decide) (by omega) (by omega) rfl (fun hf1a hf1b hf1c hf1d => ?_)
  refine pw_if E (pc' := 18) rfl (by decide) (by omega) (by omega) ?_ ?_
  · intro hc2
    have hc2 : pw_g h (c + 1) (li.toNat) = (0 : Int) := hc2
    refine pw_ld E (pc' := 19) (st' := [pw_i wo]) rfl (fun _ => rfl) ?_
    refine pw_iret E rfl ?_
    exact ⟨rfl, ⟨_, rfl, by omega, by omega⟩⟩
  · intro hc3
    have hc3 : ¬ (pw_g h (c + 1) (li.toNat) = (0 : Int)) := hc3
    refine pw_ld E (pc' := 10) (st' := [.ref (16 + c)]) rfl (fun _ => rfl) ?_
    refine pw_getR (b := 16 + (c + 4)) I E (c := c) (k := 5) (pc' := 13) rfl rfl (pw_Sc_o hc) rfl rfl rfl rfl ?_
    refine pw_ld E (pc' := 14) (st' := [pw_i li, .ref (16 + (c + 4))]) rfl (fun _ => rfl) ?_
    refine pw_ald I E (c := c + 4) (pc' := 15) rfl rfl (pw_Sc_4 hc) (by decide) rfl (by decide) (by omega) (by omega) rfl (fun hf4a hf4b hf4c hf4d => ?_)
    refine pw_goto E (pc' := 19) rfl (by decide) ?_
    refine pw_iret E rfl ?_
    exact ⟨rfl, ⟨_, rfl, by omega, by omega⟩⟩
