/-! contracts (printed by wip/tool/pwspec.py) -/
set_option maxHeartbeats 4000000 in
theorem cm_81 {X : List (Nat × List Value)} {d : Nat} {h : pm_H} (hd : 1 ≤ d) (I : pw_I h)  : pw X d h 81 0 [some (.ref 32)] [] (fun h' v => pw_I h' ∧ pw_E [17] h h' ∧ v = .inl none) := by
  have E : pm_ent 81 = some (1, 1, 8, 4, pmc_81) := rfl
  have E0 : pw_E [17] h h := pw_E.rf _ _
  refine pw_ld E (pc' := 1) (st' := [.ref 32]) rfl (fun _ => rfl) ?_
  refine pw_getR (b := 33) I E (c := 16) (k := 0) (pc' := 4) rfl rfl rfl rfl rfl rfl rfl ?_
  refine pw_ld E (pc' := 5) (st' := [pw_i ((-1)), .ref 33]) rfl (fun _ => rfl) ?_
  refine pw_fill I E (c := 17) rfl rfl rfl (by decide) (by omega) (by omega) (by omega) (by omega) rfl rfl ?_
  intro h1I h1E
  generalize h.set 17 (.inl (0, List.replicate 24 (pw_i ((-1))))) = h1 at h1I h1E ⊢
  have h1F := E0.tr (h1E.wk (W' := [17]) (by first | rfl | simp))
  refine pw_vret E rfl ?_
  exact ⟨h1I, h1F, rfl⟩
set_option maxHeartbeats 4000000 in
theorem cm_82 {X : List (Nat × List Value)} {d : Nat} {h : pm_H} (hd : 1 ≤ d) (I : pw_I h) (k : Int) (hk1 : 0 ≤ k) (hk2 : k ≤ 23) (sd : Int) (hsd1 : (-1) ≤ sd) (hsd2 : sd ≤ 1) (ch : Int) (hch1 : (-2147483648) ≤ ch) (hch2 : ch ≤ 2147483647) : pw X d h 82 0 [some (.ref 32), some (pw_i k), some (pw_i sd), some (pw_i ch)] [] (fun h' v => pw_I h' ∧ pw_E [17, 18] h h' ∧ v = .inl none) := by
  have E : pm_ent 82 = some (4, 4, 8, 4, pmc_82) := rfl
  have E0 : pw_E [17, 18] h h := pw_E.rf _ _
  refine pw_ld E (pc' := 1) (st' := [.ref 32]) rfl (fun _ => rfl) ?_
  refine pw_getR (b := 33) I E (c := 16) (k := 0) (pc' := 4) rfl rfl rfl rfl rfl rfl rfl ?_
  refine pw_ld E (pc' := 5) (st' := [pw_i k, .ref 33]) rfl (fun _ => rfl) ?_
  refine pw_ld E (pc' := 6) (st' := [pw_i sd, pw_i k, .ref 33]) rfl (fun _ => rfl) ?_
  refine pw_ast0 I E (c := 17) (pc' := 7) rfl rfl rfl (by decide) rfl (by decide) (by omega) (by omega) rfl (by omega) (by omega) (by omega) (by omega) rfl ?_
  intro h1I h1E
  generalize h1w : pw_w h 17 (k.toNat) (pw_i sd) = h1 at h1I h1E ⊢
  have h1F := E0.tr (h1E.wk (W' := [17, 18]) (by first | rfl | simp))
  refine pw_ld E (pc' := 8) (st' := [.ref 32]) rfl (fun _ => rfl) ?_
  refine pw_getR (b := 34) h1I E (c := 16) (k := 1) (pc' := 11) rfl rfl rfl rfl rfl rfl rfl ?_
  refine pw_ld E (pc' := 12) (st' := [pw_i k, .ref 34]) rfl (fun _ => rfl) ?_
  refine pw_ld E (pc' := 13) (st' := [pw_i ch, pw_i k, .ref 34]) rfl (fun _ => rfl) ?_
  refine pw_ast0 h1I E (c := 18) (pc' := 14) rfl rfl rfl (by decide) rfl (by decide) (by omega) (by omega) rfl (by omega) (by omega) (by omega) (by omega) rfl ?_
  intro h2I h2E
  generalize h2w : pw_w h1 18 (k.toNat) (pw_i ch) = h2 at h2I h2E ⊢
  have h2F := h1F.tr (h2E.wk (W' := [17, 18]) (by first | rfl | simp))
  refine pw_vret E rfl ?_
  exact ⟨h2I, h2F, rfl⟩
set_option maxHeartbeats 4000000 in
theorem cm_93 {X : List (Nat × List Value)} {d : Nat} {h : pm_H} (hd : 1 ≤ d) (I : pw_I h) (k : Int) (hk1 : 0 ≤ k) (hk2 : k ≤ 23) : pw X d h 93 0 [some (.ref 32), some (pw_i k)] [] (fun h' v => pw_I h' ∧ pw_E [17] h h' ∧ v = .inl none) := by
  have E : pm_ent 93 = some (2, 2, 8, 4, pmc_93) := rfl
  have E0 : pw_E [17] h h := pw_E.rf _ _
  refine pw_ld E (pc' := 1) (st' := [.ref 32]) rfl (fun _ => rfl) ?_
  refine pw_getR (b := 33) I E (c := 16) (k := 0) (pc' := 4) rfl rfl rfl rfl rfl rfl rfl ?_
  refine pw_ld E (pc' := 5) (st' := [pw_i k, .ref 33]) rfl (fun _ => rfl) ?_
  refine pw_ld E (pc' := 6) (st' := [pw_i ((-1)), pw_i k, .ref 33]) rfl (fun _ => rfl) ?_
  refine pw_ast0 I E (c := 17) (pc' := 7) rfl rfl rfl (by decide) rfl (by decide) (by omega) (by omega) rfl (by omega) (by omega) (by omega) (by omega) rfl ?_
  intro h1I h1E
  generalize h1w : pw_w h 17 (k.toNat) (pw_i ((-1))) = h1 at h1I h1E ⊢
  have h1F := E0.tr (h1E.wk (W' := [17]) (by first | rfl | simp))
  refine pw_vret E rfl ?_
  exact ⟨h1I, h1F, rfl⟩
set_option maxHeartbeats 4000000 in
theorem cm_84 {X : List (Nat × List Value)} {d : Nat} {h : pm_H} (hd : 1 ≤ d) (I : pw_I h) (sd : Int) (hsd1 : (-2147483648) ≤ sd) (hsd2 : sd ≤ 2147483647) : pw X d h 84 0 [some (.ref 32), some (pw_i sd), none, none] [] (fun h' v => h = h' ∧ ∃ a : Int, v = .inl (some (pw_i a)) ∧ 0 ≤ a ∧ a ≤ 24) := by
  have E : pm_ent 84 = some (2, 4, 8, 0, pmc_84) := rfl
  refine pw_ld E (pc' := 1) (st' := [pw_i 0]) rfl (fun _ => rfl) ?_
  refine pw_istn E (pc' := 2) (ls' := [some (.ref 32), some (pw_i sd), some (pw_i 0), none]) rfl rfl rfl rfl ?_
  refine pw_ld E (pc' := 3) (st' := [pw_i 0]) rfl (fun _ => rfl) ?_
  refine pw_istn E (pc' := 4) (ls' := [some (.ref 32), some (pw_i sd), some (pw_i 0), some (pw_i 0)]) rfl rfl rfl rfl ?_
  have L4 : ∀ (n4 : Nat) (k4_2 : Int) (k4_3 : Int), 0 ≤ k4_2 → k4_2 ≤ 24 → 0 ≤ k4_3 → k4_3 ≤ 24 → k4_2 ≤ k4_3 → (24 - k4_3).toNat = n4 → pw X d h 84 4 [some (.ref 32), some (pw_i sd), some (pw_i k4_2), some (pw_i k4_3)] [] (fun h' v => h = h' ∧ ∃ a : Int, v = .inl (some (pw_i a)) ∧ 0 ≤ a ∧ a ≤ 24) := by
    intro n4
    induction n4 using Nat.strongRecOn with
    | ind n4 ih4 =>
      intro k4_2 k4_3 k4_2a k4_2b k4_3a k4_3b hx4_0 hm4
      refine pw_ld E (pc' := 5) (st' := [pw_i k4_3]) rfl (fun _ => rfl) ?_
      refine pw_bip E (pc' := 7) rfl rfl (by decide) ?_
      refine pw_if2 E (pc' := 34) rfl (by decide) (by omega) (by omega) (by decide) (by decide) ?_ ?_
      · intro hc1
        have hc1 : (24 : Int) ≤ k4_3 := hc1
        refine pw_ld E (pc' := 35) (st' := [pw_i k4_2]) rfl (fun _ => rfl) ?_
        refine pw_iret E rfl ?_
        exact ⟨rfl, ⟨_, rfl, by omega, by omega⟩⟩
      · intro hc2
        have hc2 : ¬ ((24 : Int) ≤ k4_3) := hc2
        refine pw_ld E (pc' := 11) (st' := [pw_i k4_2]) rfl (fun _ => rfl) ?_
        refine pw_ld E (pc' := 12) (st' := [.ref 32, pw_i k4_2]) rfl (fun _ => rfl) ?_
        refine pw_getR (b := 33) I E (c := 16) (k := 0) (pc' := 15) rfl rfl rfl rfl rfl rfl rfl ?_
        refine pw_ld E (pc' := 16) (st' := [pw_i k4_3, .ref 33, pw_i k4_2]) rfl (fun _ => rfl) ?_
        refine pw_ald I E (c := 17) (pc' := 17) rfl rfl rfl (by decide) rfl (by decide) (by omega) (by omega) rfl (fun hf3a hf3b hf3c hf3d => ?_)
        refine pw_ld E (pc' := 18) (st' := [pw_i sd, pw_i (pw_g h 17 (k4_3.toNat)), pw_i k4_2]) rfl (fun _ => rfl) ?_
        refine pw_if2 E (pc' := 25) rfl (by decide) (by omega) (by omega) (by omega) (by omega) ?_ ?_
        · intro hc4
          have hc4 : pw_g h 17 (k4_3.toNat) ≠ sd := hc4
          refine pw_ld E (pc' := 26) (st' := [pw_i 0, pw_i k4_2]) rfl (fun _ => rfl) ?_
          refine pw_add E (pc' := 27) rfl rfl ?_
          refine pw_istn E (pc' := 28) (ls' := [some (.ref 32), some (pw_i sd), some (pw_i (k4_2 + 0)), some (pw_i k4_3)]) rfl rfl rfl rfl ?_
          refine pw_inc E (pc' := 31) (ls' := [some (.ref 32), some (pw_i sd), some (pw_i (k4_2 + 0)), some (pw_i (k4_3 + 1))]) rfl rfl rfl rfl ?_
          refine pw_goto E (pc' := 4) rfl (by decide) ?_
          exact ih4 _ (by omega) (k4_2 + 0) (k4_3 + 1)  (by omega) (by omega) (by omega) (by omega) (by omega) rfl
        · intro hc5
          have hc5 : ¬ (pw_g h 17 (k4_3.toNat) ≠ sd) := hc5
          refine pw_ld E (pc' := 22) (st' := [pw_i 1, pw_i k4_2]) rfl (fun _ => rfl) ?_
          refine pw_goto E (pc' := 26) rfl (by decide) ?_
          refine pw_add E (pc' := 27) rfl rfl ?_
          refine pw_istn E (pc' := 28) (ls' := [some (.ref 32), some (pw_i sd), some (pw_i (k4_2 + 1)), some (pw_i k4_3)]) rfl rfl rfl rfl ?_
          refine pw_inc E (pc' := 31) (ls' := [some (.ref 32), some (pw_i sd), some (pw_i (k4_2 + 1)), some (pw_i (k4_3 + 1))]) rfl rfl rfl rfl ?_
          refine pw_goto E (pc' := 4) rfl (by decide) ?_
          exact ih4 _ (by omega) (k4_2 + 1) (k4_3 + 1)  (by omega) (by omega) (by omega) (by omega) (by omega) rfl
  exact L4 _ (0) (0)  (by omega) (by omega) (by omega) (by omega) (by omega) rfl
set_option maxHeartbeats 4000000 in
theorem cm_85 {X : List (Nat × List Value)} {d : Nat} {h : pm_H} (hd : 1 ≤ d) (I : pw_I h) (sd : Int) (hsd1 : (-2147483648) ≤ sd) (hsd2 : sd ≤ 2147483647) : pw X d h 85 0 [some (.ref 32), some (pw_i sd), none, none] [] (fun h' v => h = h' ∧ ∃ a : Int, v = .inl (some (pw_i a)) ∧ (-2147483648) ≤ a ∧ a ≤ 2147483647) := by
  have E : pm_ent 85 = some (2, 4, 8, 0, pmc_85) := rfl
  refine pw_ld E (pc' := 1) (st' := [pw_i 0]) rfl (fun _ => rfl) ?_
  refine pw_istn E (pc' := 2) (ls' := [some (.ref 32), some (pw_i sd), some (pw_i 0), none]) rfl rfl rfl rfl ?_
  refine pw_ld E (pc' := 3) (st' := [pw_i 0]) rfl (fun _ => rfl) ?_
  refine pw_istn E (pc' := 4) (ls' := [some (.ref 32), some (pw_i sd), some (pw_i 0), some (pw_i 0)]) rfl rfl rfl rfl ?_
  have L4 : ∀ (n4 : Nat) (k4_2 : Int) (k4_3 : Int), (-2147483648) ≤ k4_2 → k4_2 ≤ 2147483647 → 0 ≤ k4_3 → k4_3 ≤ 24 → (24 - k4_3).toNat = n4 → pw X d h 85 4 [some (.ref 32), some (pw_i sd), some (pw_i k4_2), some (pw_i k4_3)] [] (fun h' v => h = h' ∧ ∃ a : Int, v = .inl (some (pw_i a)) ∧ (-2147483648) ≤ a ∧ a ≤ 2147483647) := by
    intro n4
    induction n4 using Nat.strongRecOn with
    | ind n4 ih4 =>
      intro k4_2 k4_3 k4_2a k4_2b k4_3a k4_3b hm4
      refine pw_ld E (pc' := 5) (st' := [pw_i k4_3]) rfl (fun _ => rfl) ?_
      refine pw_bip E (pc' := 7) rfl rfl (by decide) ?_
      refine pw_if2 E (pc' := 39) rfl (by decide) (by omega) (by omega) (by decide) (by decide) ?_ ?_
      · intro hc1
        have hc1 : (24 : Int) ≤ k4_3 := hc1
        refine pw_ld E (pc' := 40) (st' := [pw_i k4_2]) rfl (fun _ => rfl) ?_
        refine pw_iret E rfl ?_
        exact ⟨rfl, ⟨_, rfl, by omega, by omega⟩⟩
      · intro hc2
        have hc2 : ¬ ((24 : Int) ≤ k4_3) := hc2
        refine pw_ld E (pc' := 11) (st' := [pw_i k4_2]) rfl (fun _ => rfl) ?_
        refine pw_ld E (pc' := 12) (st' := [.ref 32, pw_i k4_2]) rfl (fun _ => rfl) ?_
        refine pw_getR (b := 33) I E (c := 16) (k := 0) (pc' := 15) rfl rfl rfl rfl rfl rfl rfl ?_
        refine pw_ld E (pc' := 16) (st' := [pw_i k4_3, .ref 33, pw_i k4_2]) rfl (fun _ => rfl) ?_
        refine pw_ald I E (c := 17) (pc' := 17) rfl rfl rfl (by decide) rfl (by decide) (by omega) (by omega) rfl (fun hf3a hf3b hf3c hf3d => ?_)
        refine pw_ld E (pc' := 18) (st' := [pw_i sd, pw_i (pw_g h 17 (k4_3.toNat)), pw_i k4_2]) rfl (fun _ => rfl) ?_
        refine pw_if2 E (pc' := 30) rfl (by decide) (by omega) (by omega) (by omega) (by omega) ?_ ?_
        · intro hc4
          have hc4 : pw_g h 17 (k4_3.toNat) ≠ sd := hc4
          refine pw_ld E (pc' := 31) (st' := [pw_i 0, pw_i k4_2]) rfl (fun _ => rfl) ?_
          refine pw_add E (pc' := 32) rfl rfl ?_
          refine pw_istn E (pc' := 33) (ls' := [some (.ref 32), some (pw_i sd), some (pw_i (k4_2 + 0)), some (pw_i k4_3)]) rfl rfl rfl rfl ?_
          refine pw_inc E (pc' := 36) (ls' := [some (.ref 32), some (pw_i sd), some (pw_i (k4_2 + 0)), some (pw_i (k4_3 + 1))]) rfl rfl rfl rfl ?_
          refine pw_goto E (pc' := 4) rfl (by decide) ?_
          exact ih4 _ (by omega) (k4_2 + 0) (k4_3 + 1)  (by omega) (by omega) (by omega) (by omega)  rfl
        · intro hc5
          have hc5 : ¬ (pw_g h 17 (k4_3.toNat) ≠ sd) := hc5
          refine pw_ld E (pc' := 22) (st' := [.ref 32, pw_i k4_2]) rfl (fun _ => rfl) ?_
          refine pw_getR (b := 34) I E (c := 16) (k := 1) (pc' := 25) rfl rfl rfl rfl rfl rfl rfl ?_
          refine pw_ld E (pc' := 26) (st' := [pw_i k4_3, .ref 34, pw_i k4_2]) rfl (fun _ => rfl) ?_
          refine pw_ald I E (c := 18) (pc' := 27) rfl rfl rfl (by decide) rfl (by decide) (by omega) (by omega) rfl (fun hf6a hf6b hf6c hf6d => ?_)
          refine pw_goto E (pc' := 31) rfl (by decide) ?_
          refine pw_add E (pc' := 32) rfl rfl ?_
          refine pw_nm (fun x7 hx7a hx7b => ?_)
          refine pw_istn E (pc' := 33) (ls' := [some (.ref 32), some (pw_i sd), some (pw_i x7), some (pw_i k4_3)]) rfl rfl rfl rfl ?_
          refine pw_inc E (pc' := 36) (ls' := [some (.ref 32), some (pw_i sd), some (pw_i x7), some (pw_i (k4_3 + 1))]) rfl rfl rfl rfl ?_
          refine pw_goto E (pc' := 4) rfl (by decide) ?_
          exact ih4 _ (by omega) (x7) (k4_3 + 1)  (by omega) (by omega) (by omega) (by omega)  rfl
  exact L4 _ (0) (0)  (by omega) (by omega) (by omega) (by omega)  rfl
set_option maxHeartbeats 4000000 in
theorem cm_86 {X : List (Nat × List Value)} {d : Nat} {h : pm_H} (hd : 2 ≤ d) (I : pw_I h)  : pw X d h 86 0 [some (.ref 32)] [] (fun h' v => h = h' ∧ ∃ a : Int, v = .inl (some (pw_i a)) ∧ 0 ≤ a ∧ a ≤ 1) := by
  have E : pm_ent 86 = some (1, 1, 8, 1, pmc_86) := rfl
  refine pw_ld E (pc' := 1) (st' := [.ref 32]) rfl (fun _ => rfl) ?_
  refine pw_ld E (pc' := 2) (st' := [pw_i 0, .ref 32]) rfl (fun _ => rfl) ?_
  obtain ⟨f1l, f1h, -⟩ := pw_obj (c := 16) I rfl
  refine pw_call (m' := 84) (As := [.ref 32, pw_i 0]) (rest := []) (ls'' := [some (.ref 32), some (pw_i 0), none, none]) (by omega) E rfl (fun _ => pw_iV rfl rfl rfl rfl (pw_cellI f1h rfl)) (rfl : pm_ent 84 = some (2, 4, 8, 0, pmc_84)) rfl rfl (cm_84 (by omega) I (0) (by omega) (by omega)) ?_
  rintro u3 v2 ⟨rfl, x4, rfl, hx4a, hx4b⟩
  refine ⟨_, rfl, ?_⟩
  show pw X d h 86 5 [some (.ref 32)] [pw_i x4] _
  refine pw_if E (pc' := 16) rfl (by decide) (by omega) (by omega) ?_ ?_
  · intro hc5
    have hc5 : x4 = (0 : Int) := hc5
    refine pw_ld E (pc' := 17) (st' := [pw_i 1]) rfl (fun _ => rfl) ?_
    refine pw_goto E (pc' := 21) rfl (by decide) ?_
    refine pw_zret E rfl (by omega) ?_
    exact ⟨rfl, ⟨_, rfl, by omega, by omega⟩⟩
  · intro hc6
    have hc6 : ¬ (x4 = (0 : Int)) := hc6
    refine pw_ld E (pc' := 9) (st' := [.ref 32]) rfl (fun _ => rfl) ?_
    refine pw_ld E (pc' := 10) (st' := [pw_i 1, .ref 32]) rfl (fun _ => rfl) ?_
    obtain ⟨f7l, f7h, -⟩ := pw_obj (c := 16) I rfl
    refine pw_call (m' := 84) (As := [.ref 32, pw_i 1]) (rest := []) (ls'' := [some (.ref 32), some (pw_i 1), none, none]) (by omega) E rfl (fun _ => pw_iV rfl rfl rfl rfl (pw_cellI f7h rfl)) (rfl : pm_ent 84 = some (2, 4, 8, 0, pmc_84)) rfl rfl (cm_84 (by omega) I (1) (by omega) (by omega)) ?_
    rintro u9 v8 ⟨rfl, x10, rfl, hx10a, hx10b⟩
    refine ⟨_, rfl, ?_⟩
    show pw X d h 86 13 [some (.ref 32)] [pw_i x10] _
    refine pw_if E (pc' := 20) rfl (by decide) (by omega) (by omega) ?_ ?_
    · intro hc11
      have hc11 : x10 ≠ (0 : Int) := hc11
      refine pw_ld E (pc' := 21) (st' := [pw_i 0]) rfl (fun _ => rfl) ?_
      refine pw_zret E rfl (by omega) ?_
      exact ⟨rfl, ⟨_, rfl, by omega, by omega⟩⟩
    · intro hc12
      have hc12 : ¬ (x10 ≠ (0 : Int)) := hc12
      refine pw_ld E (pc' := 17) (st' := [pw_i 1]) rfl (fun _ => rfl) ?_
      refine pw_goto E (pc' := 21) rfl (by decide) ?_
      refine pw_zret E rfl (by omega) ?_
      exact ⟨rfl, ⟨_, rfl, by omega, by omega⟩⟩
set_option maxHeartbeats 4000000 in
theorem cm_83 {X : List (Nat × List Value)} {d : Nat} {h : pm_H} (hd : 3 ≤ d) (I : pw_I h) (c : Nat) (hc : pw_Fr c) : pw X d h 83 0 [some (.ref 32), some (.ref (16 + c)), none, none, none, none] [] (fun h' v => pw_I h' ∧ pw_E [c] h h' ∧ ∃ a : Int, v = .inl (some (pw_i a)) ∧ 0 ≤ a ∧ a ≤ 1) := by
  have E : pm_ent 83 = some (2, 6, 8, 1, pmc_83) := rfl
  have E0 : pw_E [c] h h := pw_E.rf _ _
  refine pw_ld E (pc' := 1) (st' := [.ref 32]) rfl (fun _ => rfl) ?_
  refine pw_ld E (pc' := 2) (st' := [pw_i 0, .ref 32]) rfl (fun _ => rfl) ?_
  obtain ⟨f1l, f1h, -⟩ := pw_obj (c := 16) I rfl
  refine pw_call (m' := 84) (As := [.ref 32, pw_i 0]) (rest := []) (ls'' := [some (.ref 32), some (pw_i 0), none, none]) (by omega) E rfl (fun _ => pw_iV rfl rfl rfl rfl (pw_cellI f1h rfl)) (rfl : pm_ent 84 = some (2, 4, 8, 0, pmc_84)) rfl rfl (cm_84 (by omega) I (0) (by omega) (by omega)) ?_
  rintro u3 v2 ⟨rfl, x4, rfl, hx4a, hx4b⟩
  refine ⟨_, rfl, ?_⟩
  show pw X d h 83 5 [some (.ref 32), some (.ref (16 + c)), none, none, none, none] [pw_i x4] _
  refine pw_ld E (pc' := 6) (st' := [.long ((Int32.ofInt x4).toInt64)]) rfl (fun _ => rfl) ?_
  refine pw_lstn E (pc' := 7) (ls' := [some (.ref 32), some (.ref (16 + c)), some (.long ((Int32.ofInt x4).toInt64)), none, none, none]) rfl rfl rfl rfl ?_
  refine pw_ld E (pc' := 8) (st' := [.ref 32]) rfl (fun _ => rfl) ?_
  refine pw_ld E (pc' := 9) (st' := [pw_i 1, .ref 32]) rfl (fun _ => rfl) ?_
  obtain ⟨f5l, f5h, -⟩ := pw_obj (c := 16) I rfl
  refine pw_call (m' := 84) (As := [.ref 32, pw_i 1]) (rest := []) (ls'' := [some (.ref 32), some (pw_i 1), none, none]) (by omega) E rfl (fun _ => pw_iV rfl rfl rfl rfl (pw_cellI f5h rfl)) (rfl : pm_ent 84 = some (2, 4, 8, 0, pmc_84)) rfl rfl (cm_84 (by omega) I (1) (by omega) (by omega)) ?_
  rintro u7 v6 ⟨rfl, x8, rfl, hx8a, hx8b⟩
  refine ⟨_, rfl, ?_⟩
  show pw X d h 83 12 [some (.ref 32), some (.ref (16 + c)), some (.long ((Int32.ofInt x4).toInt64)), none, none, none] [pw_i x8] _
  refine pw_ld E (pc' := 13) (st' := [.long ((Int32.ofInt x8).toInt64)]) rfl (fun _ => rfl) ?_
  refine pw_lst E (pc' := 15) (ls' := [some (.ref 32), some (.ref (16 + c)), some (.long ((Int32.ofInt x4).toInt64)), none, some (.long ((Int32.ofInt x8).toInt64)), none]) rfl rfl rfl rfl ?_
  refine pw_ld E (pc' := 16) (st' := [.long ((Int32.ofInt x4).toInt64)]) rfl (fun _ => rfl) ?_
  refine pw_ld E (pc' := 17) (st' := [.long (Int64.ofNat 0), .long ((Int32.ofInt x4).toInt64)]) rfl (fun _ => rfl) ?_
  refine pw_lcmp E (pc' := 18) rfl rfl (fun c9 hc9 => ?_)
  refine pw_if E (pc' := 28) rfl (by decide) (by omega) (by omega) ?_ ?_
  · intro hc10
    have hc10 : c9 = (0 : Int) := hc10
    refine pw_ld E (pc' := 29) (st' := [pw_i 0]) rfl (fun _ => rfl) ?_
    refine pw_zret E rfl (by omega) ?_
    exact ⟨I, E0, ⟨_, rfl, by omega, by omega⟩⟩
  · intro hc11
    have hc11 : ¬ (c9 = (0 : Int)) := hc11
    refine pw_ld E (pc' := 23) (st' := [.long ((Int32.ofInt x8).toInt64)]) rfl (fun _ => rfl) ?_
    refine pw_ld E (pc' := 24) (st' := [.long (Int64.ofNat 0), .long ((Int32.ofInt x8).toInt64)]) rfl (fun _ => rfl) ?_
    refine pw_lcmp E (pc' := 25) rfl rfl (fun c12 hc12 => ?_)
    refine pw_if E (pc' := 30) rfl (by decide) (by omega) (by omega) ?_ ?_
    · intro hc13
      have hc13 : c12 ≠ (0 : Int) := hc13
      refine pw_ld E (pc' := 31) (st' := [.ref (16 + c)]) rfl (fun _ => rfl) ?_
      refine pw_ld E (pc' := 32) (st' := [.ref 32, .ref (16 + c)]) rfl (fun _ => rfl) ?_
      refine pw_ld E (pc' := 33) (st' := [pw_i 0, .ref 32, .ref (16 + c)]) rfl (fun _ => rfl) ?_
      obtain ⟨f14l, f14h, -⟩ := pw_obj (c := 16) I rfl
      refine pw_call (m' := 85) (As := [.ref 32, pw_i 0]) (rest := [.ref (16 + c)]) (ls'' := [some (.ref 32), some (pw_i 0), none, none]) (by omega) E rfl (fun _ => pw_iV rfl rfl rfl rfl (pw_cellI f14h rfl)) (rfl : pm_ent 85 = some (2, 4, 8, 0, pmc_85)) rfl rfl (cm_85 (by omega) I (0) (by omega) (by omega)) ?_
      rintro u16 v15 ⟨rfl, x17, rfl, hx17a, hx17b⟩
      refine ⟨_, rfl, ?_⟩
      show pw X d h 83 36 [some (.ref 32), some (.ref (16 + c)), some (.long ((Int32.ofInt x4).toInt64)), none, some (.long ((Int32.ofInt x8).toInt64)), none] [pw_i x17, .ref (16 + c)] _
      refine pw_ld E (pc' := 37) (st' := [.long ((Int32.ofInt x17).toInt64), .ref (16 + c)]) rfl (fun _ => rfl) ?_
      refine pw_ld E (pc' := 39) (st' := [.long ((Int32.ofInt x8).toInt64), .long ((Int32.ofInt x17).toInt64), .ref (16 + c)]) rfl (fun _ => rfl) ?_
      refine pw_ld E (pc' := 40) (st' := [.long (((Int32.ofInt x17).toInt64) * ((Int32.ofInt x8).toInt64)), .ref (16 + c)]) rfl (fun _ => rfl) ?_
      refine pw_ld E (pc' := 41) (st' := [.ref 32, .long (((Int32.ofInt x17).toInt64) * ((Int32.ofInt x8).toInt64)), .ref (16 + c)]) rfl (fun _ => rfl) ?_
      refine pw_ld E (pc' := 42) (st' := [pw_i 1, .ref 32, .long (((Int32.ofInt x17).toInt64) * ((Int32.ofInt x8).toInt64)), .ref (16 + c)]) rfl (fun _ => rfl) ?_
      obtain ⟨f18l, f18h, -⟩ := pw_obj (c := 16) I rfl
      refine pw_call (m' := 85) (As := [.ref 32, pw_i 1]) (rest := [.long (((Int32.ofInt x17).toInt64) * ((Int32.ofInt x8).toInt64)), .ref (16 + c)]) (ls'' := [some (.ref 32), some (pw_i 1), none, none]) (by omega) E rfl (fun _ => pw_iV rfl rfl rfl rfl (pw_cellI f18h rfl)) (rfl : pm_ent 85 = some (2, 4, 8, 0, pmc_85)) rfl rfl (cm_85 (by omega) I (1) (by omega) (by omega)) ?_
      rintro u20 v19 ⟨rfl, x21, rfl, hx21a, hx21b⟩
      refine ⟨_, rfl, ?_⟩
      show pw X d h 83 45 [some (.ref 32), some (.ref (16 + c)), some (.long ((Int32.ofInt x4).toInt64)), none, some (.long ((Int32.ofInt x8).toInt64)), none] [pw_i x21, .long (((Int32.ofInt x17).toInt64) * ((Int32.ofInt x8).toInt64)), .ref (16 + c)] _
      refine pw_ld E (pc' := 46) (st' := [.long ((Int32.ofInt x21).toInt64), .long (((Int32.ofInt x17).toInt64) * ((Int32.ofInt x8).toInt64)), .ref (16 + c)]) rfl (fun _ => rfl) ?_
      refine pw_ld E (pc' := 47) (st' := [.long ((Int32.ofInt x4).toInt64), .long ((Int32.ofInt x21).toInt64), .long (((Int32.ofInt x17).toInt64) * ((Int32.ofInt x8).toInt64)), .ref (16 + c)]) rfl (fun _ => rfl) ?_
      refine pw_ld E (pc' := 48) (st' := [.long (((Int32.ofInt x21).toInt64) * ((Int32.ofInt x4).toInt64)), .long (((Int32.ofInt x17).toInt64) * ((Int32.ofInt x8).toInt64)), .ref (16 + c)]) rfl (fun _ => rfl) ?_
      refine pw_ld E (pc' := 49) (st' := [.long ((((Int32.ofInt x17).toInt64) * ((Int32.ofInt x8).toInt64)) - (((Int32.ofInt x21).toInt64) * ((Int32.ofInt x4).toInt64))), .ref (16 + c)]) rfl (fun _ => rfl) ?_
      refine pw_ld E (pc' := 50) (st' := [.long ((Int32.ofInt x4).toInt64), .long ((((Int32.ofInt x17).toInt64) * ((Int32.ofInt x8).toInt64)) - (((Int32.ofInt x21).toInt64) * ((Int32.ofInt x4).toInt64))), .ref (16 + c)]) rfl (fun _ => rfl) ?_
      refine pw_ld E (pc' := 52) (st' := [.long ((Int32.ofInt x8).toInt64), .long ((Int32.ofInt x4).toInt64), .long ((((Int32.ofInt x17).toInt64) * ((Int32.ofInt x8).toInt64)) - (((Int32.ofInt x21).toInt64) * ((Int32.ofInt x4).toInt64))), .ref (16 + c)]) rfl (fun _ => rfl) ?_
      refine pw_ld E (pc' := 53) (st' := [.long (((Int32.ofInt x4).toInt64) * ((Int32.ofInt x8).toInt64)), .long ((((Int32.ofInt x17).toInt64) * ((Int32.ofInt x8).toInt64)) - (((Int32.ofInt x21).toInt64) * ((Int32.ofInt x4).toInt64))), .ref (16 + c)]) rfl (fun _ => rfl) ?_
      obtain ⟨f22l, f22h, -⟩ := pw_obj (c := c) I (pw_Fr_o hc)
      refine pw_call (m' := 6) (As := [.ref (16 + c), .long ((((Int32.ofInt x17).toInt64) * ((Int32.ofInt x8).toInt64)) - (((Int32.ofInt x21).toInt64) * ((Int32.ofInt x4).toInt64))), .long (((Int32.ofInt x4).toInt64) * ((Int32.ofInt x8).toInt64))]) (rest := []) (ls'' := [some (.ref (16 + c)), some (.long ((((Int32.ofInt x17).toInt64) * ((Int32.ofInt x8).toInt64)) - (((Int32.ofInt x21).toInt64) * ((Int32.ofInt x4).toInt64)))), none, some (.long (((Int32.ofInt x4).toInt64) * ((Int32.ofInt x8).toInt64))), none, none, none]) (by omega) E rfl (fun _ => pw_iV rfl rfl rfl rfl (pw_cellI f22h rfl)) (rfl : pm_ent 6 = some (3, 7, 1, 4, pmc_6)) rfl rfl (cm_6 (by omega) I c hc ((((Int32.ofInt x17).toInt64) * ((Int32.ofInt x8).toInt64)) - (((Int32.ofInt x21).toInt64) * ((Int32.ofInt x4).toInt64))) (((Int32.ofInt x4).toInt64) * ((Int32.ofInt x8).toInt64))) ?_
      rintro h23 v24 ⟨h23I, h23E, rfl⟩
      refine ⟨_, rfl, ?_⟩
      have h23F := E0.tr (h23E.wk (W' := [c]) (by first | rfl | simp))
      show pw X d h23 83 56 [some (.ref 32), some (.ref (16 + c)), some (.long ((Int32.ofInt x4).toInt64)), none, some (.long ((Int32.ofInt x8).toInt64)), none] [] _
      refine pw_ld E (pc' := 57) (st' := [pw_i 1]) rfl (fun _ => rfl) ?_
      refine pw_zret E rfl (by omega) ?_
      exact ⟨h23I, h23F, ⟨_, rfl, by omega, by omega⟩⟩
    · intro hc25
      have hc25 : ¬ (c12 ≠ (0 : Int)) := hc25
      refine pw_ld E (pc' := 29) (st' := [pw_i 0]) rfl (fun _ => rfl) ?_
      refine pw_zret E rfl (by omega) ?_
      exact ⟨I, E0, ⟨_, rfl, by omega, by omega⟩⟩
set_option maxHeartbeats 4000000 in
theorem cm_92 {X : List (Nat × List Value)} {d : Nat} {h : pm_H} (hd : 1 ≤ d) (I : pw_I h) (sd : Int) (hsd1 : (-2147483648) ≤ sd) (hsd2 : sd ≤ 2147483647) : pw X d h 92 0 [some (.ref 32), some (pw_i sd), none, none] [] (fun h' v => pw_I h' ∧ pw_E [19] h h' ∧ ∃ a : Int, v = .inl (some (pw_i a)) ∧ 0 ≤ a ∧ a ≤ 24) := by
  have E : pm_ent 92 = some (2, 4, 8, 0, pmc_92) := rfl
  have E0 : pw_E [19] h h := pw_E.rf _ _
  refine pw_ld E (pc' := 1) (st' := [pw_i 0]) rfl (fun _ => rfl) ?_
  refine pw_istn E (pc' := 2) (ls' := [some (.ref 32), some (pw_i sd), some (pw_i 0), none]) rfl rfl rfl rfl ?_
  refine pw_ld E (pc' := 3) (st' := [pw_i 0]) rfl (fun _ => rfl) ?_
  refine pw_istn E (pc' := 4) (ls' := [some (.ref 32), some (pw_i sd), some (pw_i 0), some (pw_i 0)]) rfl rfl rfl rfl ?_
  have L4 : ∀ (n4 : Nat) (k4_2 : Int) (k4_3 : Int) (h4 : pm_H), pw_I h4 → pw_E [19] h h4 → 0 ≤ k4_2 → k4_2 ≤ 24 → 0 ≤ k4_3 → k4_3 ≤ 24 → k4_2 ≤ k4_3 → (24 - k4_3).toNat = n4 → pw X d h4 92 4 [some (.ref 32), some (pw_i sd), some (pw_i k4_2), some (pw_i k4_3)] [] (fun h' v => pw_I h' ∧ pw_E [19] h h' ∧ ∃ a : Int, v = .inl (some (pw_i a)) ∧ 0 ≤ a ∧ a ≤ 24) := by
    intro n4
    induction n4 using Nat.strongRecOn with
    | ind n4 ih4 =>
      intro k4_2 k4_3 h4 I4 E4 k4_2a k4_2b k4_3a k4_3b hx4_0 hm4
      refine pw_ld E (pc' := 5) (st' := [pw_i k4_3]) rfl (fun _ => rfl) ?_
      refine pw_bip E (pc' := 7) rfl rfl (by decide) ?_
      refine pw_if2 E (pc' := 41) rfl (by decide) (by omega) (by omega) (by decide) (by decide) ?_ ?_
      · intro hc1
        have hc1 : (24 : Int) ≤ k4_3 := hc1
        refine pw_ld E (pc' := 42) (st' := [pw_i k4_2]) rfl (fun _ => rfl) ?_
        refine pw_iret E rfl ?_
        exact ⟨I4, E4, ⟨_, rfl, by omega, by omega⟩⟩
      · intro hc2
        have hc2 : ¬ ((24 : Int) ≤ k4_3) := hc2
        refine pw_ld E (pc' := 11) (st' := [.ref 32]) rfl (fun _ => rfl) ?_
        refine pw_getR (b := 33) I4 E (c := 16) (k := 0) (pc' := 14) rfl rfl rfl rfl rfl rfl rfl ?_
        refine pw_ld E (pc' := 15) (st' := [pw_i k4_3, .ref 33]) rfl (fun _ => rfl) ?_
        refine pw_ald I4 E (c := 17) (pc' := 16) rfl rfl rfl (by decide) rfl (by decide) (by omega) (by omega) rfl (fun hf3a hf3b hf3c hf3d => ?_)
        refine pw_ld E (pc' := 17) (st' := [pw_i sd, pw_i (pw_g h4 17 (k4_3.toNat))]) rfl (fun _ => rfl) ?_
        refine pw_if2 E (pc' := 35) rfl (by decide) (by omega) (by omega) (by omega) (by omega) ?_ ?_
        · intro hc4
          have hc4 : pw_g h4 17 (k4_3.toNat) ≠ sd := hc4
          refine pw_inc E (pc' := 38) (ls' := [some (.ref 32), some (pw_i sd), some (pw_i k4_2), some (pw_i (k4_3 + 1))]) rfl rfl rfl rfl ?_
          refine pw_goto E (pc' := 4) rfl (by decide) ?_
          exact ih4 _ (by omega) (k4_2) (k4_3 + 1) h4 I4 E4 (by omega) (by omega) (by omega) (by omega) (by omega) rfl
        · intro hc5
          have hc5 : ¬ (pw_g h4 17 (k4_3.toNat) ≠ sd) := hc5
          refine pw_ld E (pc' := 21) (st' := [.ref 32]) rfl (fun _ => rfl) ?_
          refine pw_getR (b := 35) I4 E (c := 16) (k := 2) (pc' := 24) rfl rfl rfl rfl rfl rfl rfl ?_
          refine pw_ld E (pc' := 25) (st' := [pw_i k4_2, .ref 35]) rfl (fun _ => rfl) ?_
          refine pw_ld E (pc' := 26) (st' := [.ref 32, pw_i k4_2, .ref 35]) rfl (fun _ => rfl) ?_
          refine pw_getR (b := 34) I4 E (c := 16) (k := 1) (pc' := 29) rfl rfl rfl rfl rfl rfl rfl ?_
          refine pw_ld E (pc' := 30) (st' := [pw_i k4_3, .ref 34, pw_i k4_2, .ref 35]) rfl (fun _ => rfl) ?_
          refine pw_ald I4 E (c := 18) (pc' := 31) rfl rfl rfl (by decide) rfl (by decide) (by omega) (by omega) rfl (fun hf6a hf6b hf6c hf6d => ?_)
          refine pw_ast0 I4 E (c := 19) (pc' := 32) rfl rfl rfl (by decide) rfl (by decide) (by omega) (by omega) rfl (by omega) (by omega) (by omega) (by omega) rfl ?_
          intro h7I h7E
          generalize h7w : pw_w h4 19 (k4_2.toNat) (pw_i (pw_g h4 18 (k4_3.toNat))) = h7 at h7I h7E ⊢
          have h7F := E4.tr (h7E.wk (W' := [19]) (by first | rfl | simp))
          refine pw_inc E (pc' := 35) (ls' := [some (.ref 32), some (pw_i sd), some (pw_i (k4_2 + 1)), some (pw_i k4_3)]) rfl rfl rfl rfl ?_
          refine pw_inc E (pc' := 38) (ls' := [some (.ref 32), some (pw_i sd), some (pw_i (k4_2 + 1)), some (pw_i (k4_3 + 1))]) rfl rfl rfl rfl ?_
          refine pw_goto E (pc' := 4) rfl (by decide) ?_
          exact ih4 _ (by omega) (k4_2 + 1) (k4_3 + 1) h7 h7I h7F (by omega) (by omega) (by omega) (by omega) (by omega) rfl
  exact L4 _ (0) (0) h I E0 (by omega) (by omega) (by omega) (by omega) (by omega) rfl
set_option maxHeartbeats 4000000 in
theorem cm_88 {X : List (Nat × List Value)} {d : Nat} {h : pm_H} (hd : 1 ≤ d) (I : pw_I h)  : pw X d h 88 0 [some (.ref 32), none, none] [] (fun h' v => pw_I h' ∧ pw_E [19] h h' ∧ v = .inl none) := by
  have E : pm_ent 88 = some (1, 3, 8, 4, pmc_88) := rfl
  have E0 : pw_E [19] h h := pw_E.rf _ _
  refine pw_ld E (pc' := 1) (st' := [pw_i 0]) rfl (fun _ => rfl) ?_
  refine pw_istn E (pc' := 2) (ls' := [some (.ref 32), some (pw_i 0), none]) rfl rfl rfl rfl ?_
  refine pw_ld E (pc' := 3) (st' := [pw_i 0]) rfl (fun _ => rfl) ?_
  refine pw_istn E (pc' := 4) (ls' := [some (.ref 32), some (pw_i 0), some (pw_i 0)]) rfl rfl rfl rfl ?_
  have L4 : ∀ (n4 : Nat) (k4_1 : Int) (k4_2 : Int) (h4 : pm_H), pw_I h4 → pw_E [19] h h4 → 0 ≤ k4_1 → k4_1 ≤ 24 → 0 ≤ k4_2 → k4_2 ≤ 24 → k4_1 ≤ k4_2 → (24 - k4_2).toNat = n4 → pw X d h4 88 4 [some (.ref 32), some (pw_i k4_1), some (pw_i k4_2)] [] (fun h' v => pw_I h' ∧ pw_E [19] h h' ∧ v = .inl none) := by
    intro n4
    induction n4 using Nat.strongRecOn with
    | ind n4 ih4 =>
      intro k4_1 k4_2 h4 I4 E4 k4_1a k4_1b k4_2a k4_2b hx4_0 hm4
      refine pw_ld E (pc' := 5) (st' := [pw_i k4_2]) rfl (fun _ => rfl) ?_
      refine pw_bip E (pc' := 7) rfl rfl (by decide) ?_
      refine pw_if2 E (pc' := 41) rfl (by decide) (by omega) (by omega) (by decide) (by decide) ?_ ?_
      · intro hc1
        have hc1 : (24 : Int) ≤ k4_2 := hc1
        refine pw_vret E rfl ?_
        exact ⟨I4, E4, rfl⟩
      · intro hc2
        have hc2 : ¬ ((24 : Int) ≤ k4_2) := hc2
        refine pw_ld E (pc' := 11) (st' := [.ref 32]) rfl (fun _ => rfl) ?_
        refine pw_getR (b := 33) I4 E (c := 16) (k := 0) (pc' := 14) rfl rfl rfl rfl rfl rfl rfl ?_
        refine pw_ld E (pc' := 15) (st' := [pw_i k4_2, .ref 33]) rfl (fun _ => rfl) ?_
        refine pw_ald I4 E (c := 17) (pc' := 16) rfl rfl rfl (by decide) rfl (by decide) (by omega) (by omega) rfl (fun hf3a hf3b hf3c hf3d => ?_)
        refine pw_ld E (pc' := 17) (st' := [pw_i ((-1)), pw_i (pw_g h4 17 (k4_2.toNat))]) rfl (fun _ => rfl) ?_
        refine pw_if2 E (pc' := 35) rfl (by decide) (by omega) (by omega) (by decide) (by decide) ?_ ?_
        · intro hc4
          have hc4 : pw_g h4 17 (k4_2.toNat) = ((-1) : Int) := hc4
          refine pw_inc E (pc' := 38) (ls' := [some (.ref 32), some (pw_i k4_1), some (pw_i (k4_2 + 1))]) rfl rfl rfl rfl ?_
          refine pw_goto E (pc' := 4) rfl (by decide) ?_
          exact ih4 _ (by omega) (k4_1) (k4_2 + 1) h4 I4 E4 (by omega) (by omega) (by omega) (by omega) (by omega) rfl
        · intro hc5
          have hc5 : ¬ (pw_g h4 17 (k4_2.toNat) = ((-1) : Int)) := hc5
          refine pw_ld E (pc' := 21) (st' := [.ref 32]) rfl (fun _ => rfl) ?_
          refine pw_getR (b := 35) I4 E (c := 16) (k := 2) (pc' := 24) rfl rfl rfl rfl rfl rfl rfl ?_
          refine pw_ld E (pc' := 25) (st' := [pw_i k4_1, .ref 35]) rfl (fun _ => rfl) ?_
          refine pw_ld E (pc' := 26) (st' := [.ref 32, pw_i k4_1, .ref 35]) rfl (fun _ => rfl) ?_
          refine pw_getR (b := 34) I4 E (c := 16) (k := 1) (pc' := 29) rfl rfl rfl rfl rfl rfl rfl ?_
          refine pw_ld E (pc' := 30) (st' := [pw_i k4_2, .ref 34, pw_i k4_1, .ref 35]) rfl (fun _ => rfl) ?_
          refine pw_ald I4 E (c := 18) (pc' := 31) rfl rfl rfl (by decide) rfl (by decide) (by omega) (by omega) rfl (fun hf6a hf6b hf6c hf6d => ?_)
          refine pw_ast0 I4 E (c := 19) (pc' := 32) rfl rfl rfl (by decide) rfl (by decide) (by omega) (by omega) rfl (by omega) (by omega) (by omega) (by omega) rfl ?_
          intro h7I h7E
          generalize h7w : pw_w h4 19 (k4_1.toNat) (pw_i (pw_g h4 18 (k4_2.toNat))) = h7 at h7I h7E ⊢
          have h7F := E4.tr (h7E.wk (W' := [19]) (by first | rfl | simp))
          refine pw_inc E (pc' := 35) (ls' := [some (.ref 32), some (pw_i (k4_1 + 1)), some (pw_i k4_2)]) rfl rfl rfl rfl ?_
          refine pw_inc E (pc' := 38) (ls' := [some (.ref 32), some (pw_i (k4_1 + 1)), some (pw_i (k4_2 + 1))]) rfl rfl rfl rfl ?_
          refine pw_goto E (pc' := 4) rfl (by decide) ?_
          exact ih4 _ (by omega) (k4_1 + 1) (k4_2 + 1) h7 h7I h7F (by omega) (by omega) (by omega) (by omega) (by omega) rfl
  exact L4 _ (0) (0) h I E0 (by omega) (by omega) (by omega) (by omega) (by omega) rfl
set_option maxHeartbeats 4000000 in
theorem cm_89 {X : List (Nat × List Value)} {d : Nat} {h : pm_H} (hd : 1 ≤ d) (I : pw_I h) (mb : Int) (hmb1 : (-2147483648) ≤ mb) (hmb2 : mb ≤ 2147483647) : pw X d h 89 0 [some (.ref 32), some (pw_i mb), none, none] [] (fun h' v => h = h' ∧ ∃ a : Int, v = .inl (some (pw_i a)) ∧ (-2147483648) ≤ a ∧ a ≤ 2147483647) := by
  have E : pm_ent 89 = some (2, 4, 8, 0, pmc_89) := rfl
  refine pw_ld E (pc' := 1) (st' := [pw_i 0]) rfl (fun _ => rfl) ?_
  refine pw_istn E (pc' := 2) (ls' := [some (.ref 32), some (pw_i mb), some (pw_i 0), none]) rfl rfl rfl rfl ?_
  refine pw_ld E (pc' := 3) (st' := [pw_i 0]) rfl (fun _ => rfl) ?_
  refine pw_istn E (pc' := 4) (ls' := [some (.ref 32), some (pw_i mb), some (pw_i 0), some (pw_i 0)]) rfl rfl rfl rfl ?_
  have L4 : ∀ (n4 : Nat) (k4_2 : Int) (k4_3 : Int), (-2147483648) ≤ k4_2 → k4_2 ≤ 2147483647 → 0 ≤ k4_3 → k4_3 ≤ 14 → (14 - k4_3).toNat = n4 → pw X d h 89 4 [some (.ref 32), some (pw_i mb), some (pw_i k4_2), some (pw_i k4_3)] [] (fun h' v => h = h' ∧ ∃ a : Int, v = .inl (some (pw_i a)) ∧ (-2147483648) ≤ a ∧ a ≤ 2147483647) := by
    intro n4
    induction n4 using Nat.strongRecOn with
    | ind n4 ih4 =>
      intro k4_2 k4_3 k4_2a k4_2b k4_3a k4_3b hm4
      refine pw_ld E (pc' := 5) (st' := [pw_i k4_3]) rfl (fun _ => rfl) ?_
      refine pw_bip E (pc' := 7) rfl rfl (by decide) ?_
      refine pw_if2 E (pc' := 37) rfl (by decide) (by omega) (by omega) (by decide) (by decide) ?_ ?_
      · intro hc1
        have hc1 : (14 : Int) ≤ k4_3 := hc1
        refine pw_ld E (pc' := 38) (st' := [pw_i k4_2]) rfl (fun _ => rfl) ?_
        refine pw_iret E rfl ?_
        exact ⟨rfl, ⟨_, rfl, by omega, by omega⟩⟩
      · intro hc2
        have hc2 : ¬ ((14 : Int) ≤ k4_3) := hc2
        refine pw_ld E (pc' := 11) (st' := [pw_i k4_2]) rfl (fun _ => rfl) ?_
        refine pw_ld E (pc' := 12) (st' := [pw_i mb, pw_i k4_2]) rfl (fun _ => rfl) ?_
        refine pw_ld E (pc' := 13) (st' := [pw_i k4_3, pw_i mb, pw_i k4_2]) rfl (fun _ => rfl) ?_
        refine pw_ii (f := fun x y => x >>> (y &&& 31)) E (pc' := 14) rfl (fun _ => rfl) ?_
        intro x3 hx3a hx3b
        refine pw_ld E (pc' := 15) (st' := [pw_i 1, pw_i x3, pw_i k4_2]) rfl (fun _ => rfl) ?_
        refine pw_ii (f := fun x y => x &&& y) E (pc' := 16) rfl (fun _ => rfl) ?_
        intro x4 hx4a hx4b
        refine pw_if E (pc' := 28) rfl (by decide) (by omega) (by omega) ?_ ?_
        · intro hc5
          have hc5 : x4 = (0 : Int) := hc5
          refine pw_ld E (pc' := 29) (st' := [pw_i 0, pw_i k4_2]) rfl (fun _ => rfl) ?_
          refine pw_add E (pc' := 30) rfl rfl ?_
          refine pw_istn E (pc' := 31) (ls' := [some (.ref 32), some (pw_i mb), some (pw_i (k4_2 + 0)), some (pw_i k4_3)]) rfl rfl rfl rfl ?_
          refine pw_inc E (pc' := 34) (ls' := [some (.ref 32), some (pw_i mb), some (pw_i (k4_2 + 0)), some (pw_i (k4_3 + 1))]) rfl rfl rfl rfl ?_
          refine pw_goto E (pc' := 4) rfl (by decide) ?_
          exact ih4 _ (by omega) (k4_2 + 0) (k4_3 + 1)  (by omega) (by omega) (by omega) (by omega)  rfl
        · intro hc6
          have hc6 : ¬ (x4 = (0 : Int)) := hc6
          refine pw_ld E (pc' := 20) (st' := [.ref 32, pw_i k4_2]) rfl (fun _ => rfl) ?_
          refine pw_getR (b := 35) I E (c := 16) (k := 2) (pc' := 23) rfl rfl rfl rfl rfl rfl rfl ?_
          refine pw_ld E (pc' := 24) (st' := [pw_i k4_3, .ref 35, pw_i k4_2]) rfl (fun _ => rfl) ?_
          refine pw_ald I E (c := 19) (pc' := 25) rfl rfl rfl (by decide) rfl (by decide) (by omega) (by omega) rfl (fun hf7a hf7b hf7c hf7d => ?_)
          refine pw_goto E (pc' := 29) rfl (by decide) ?_
          refine pw_add E (pc' := 30) rfl rfl ?_
          refine pw_nm (fun x8 hx8a hx8b => ?_)
          refine pw_istn E (pc' := 31) (ls' := [some (.ref 32), some (pw_i mb), some (pw_i x8), some (pw_i k4_3)]) rfl rfl rfl rfl ?_
          refine pw_inc E (pc' := 34) (ls' := [some (.ref 32), some (pw_i mb), some (pw_i x8), some (pw_i (k4_3 + 1))]) rfl rfl rfl rfl ?_
          refine pw_goto E (pc' := 4) rfl (by decide) ?_
          exact ih4 _ (by omega) (x8) (k4_3 + 1)  (by omega) (by omega) (by omega) (by omega)  rfl
  exact L4 _ (0) (0)  (by omega) (by omega) (by omega) (by omega)  rfl
set_option maxHeartbeats 4000000 in
theorem cm_326 {X : List (Nat × List Value)} {d : Nat} {h : pm_H} (hd : 1 ≤ d) (I : pw_I h) (x : Int) (hx1 : (-2147483648) ≤ x) (hx2 : x ≤ 2147483647) : pw X d h 326 0 [some (pw_i x)] [] (fun h' v => h = h' ∧ ∃ a : Int, v = .inl (some (pw_i a)) ∧ (-2147483648) ≤ a ∧ a ≤ 2147483647) := by
  have E : pm_ent 326 = some (1, 1, 15, 0, pmc_326) := rfl
  refine pw_ld E (pc' := 1) (st' := [pw_i x]) rfl (fun _ => rfl) ?_
  refine pw_ld E (pc' := 2) (st' := [pw_i x, pw_i x]) rfl (fun _ => rfl) ?_
  refine pw_ld E (pc' := 3) (st' := [pw_i 1, pw_i x, pw_i x]) rfl (fun _ => rfl) ?_
  refine pw_ii (f := fun x y => (x.toUInt32 >>> (y.toUInt32 &&& Int32.toUInt32 31)).toInt32) E (pc' := 4) rfl (fun _ => rfl) ?_
  intro x1 hx1a hx1b
  refine pw_ldcw (a := 1431655765) E (pc' := 7) rfl rfl rfl (by decide) ?_
  refine pw_ii (f := fun x y => x &&& y) E (pc' := 8) rfl (fun _ => rfl) ?_
  intro x2 hx2a hx2b
  refine pw_sub E (pc' := 9) rfl rfl ?_
  refine pw_nm (fun x3 hx3a hx3b => ?_)
  refine pw_istn E (pc' := 10) (ls' := [some (pw_i x3)]) rfl rfl rfl rfl ?_
  refine pw_ld E (pc' := 11) (st' := [pw_i x3]) rfl (fun _ => rfl) ?_
  refine pw_ldcw (a := 858993459) E (pc' := 14) rfl rfl rfl (by decide) ?_
  refine pw_ii (f := fun x y => x &&& y) E (pc' := 15) rfl (fun _ => rfl) ?_
  intro x4 hx4a hx4b
  refine pw_ld E (pc' := 16) (st' := [pw_i x3, pw_i x4]) rfl (fun _ => rfl) ?_
  refine pw_ld E (pc' := 17) (st' := [pw_i 2, pw_i x3, pw_i x4]) rfl (fun _ => rfl) ?_
  refine pw_ii (f := fun x y => (x.toUInt32 >>> (y.toUInt32 &&& Int32.toUInt32 31)).toInt32) E (pc' := 18) rfl (fun _ => rfl) ?_
  intro x5 hx5a hx5b
  refine pw_ldcw (a := 858993459) E (pc' := 21) rfl rfl rfl (by decide) ?_
  refine pw_ii (f := fun x y => x &&& y) E (pc' := 22) rfl (fun _ => rfl) ?_
  intro x6 hx6a hx6b
  refine pw_add E (pc' := 23) rfl rfl ?_
  refine pw_nm (fun x7 hx7a hx7b => ?_)
  refine pw_istn E (pc' := 24) (ls' := [some (pw_i x7)]) rfl rfl rfl rfl ?_
  refine pw_ld E (pc' := 25) (st' := [pw_i x7]) rfl (fun _ => rfl) ?_
  refine pw_ld E (pc' := 26) (st' := [pw_i x7, pw_i x7]) rfl (fun _ => rfl) ?_
  refine pw_ld E (pc' := 27) (st' := [pw_i 4, pw_i x7, pw_i x7]) rfl (fun _ => rfl) ?_
  refine pw_ii (f := fun x y => (x.toUInt32 >>> (y.toUInt32 &&& Int32.toUInt32 31)).toInt32) E (pc' := 28) rfl (fun _ => rfl) ?_
  intro x8 hx8a hx8b
  refine pw_add E (pc' := 29) rfl rfl ?_
  refine pw_nm (fun x9 hx9a hx9b => ?_)
  refine pw_ldcw (a := 252645135) E (pc' := 32) rfl rfl rfl (by decide) ?_
  refine pw_ii (f := fun x y => x &&& y) E (pc' := 33) rfl (fun _ => rfl) ?_
  intro x10 hx10a hx10b
  refine pw_istn E (pc' := 34) (ls' := [some (pw_i x10)]) rfl rfl rfl rfl ?_
  refine pw_ld E (pc' := 35) (st' := [pw_i x10]) rfl (fun _ => rfl) ?_
  refine pw_ld E (pc' := 36) (st' := [pw_i x10, pw_i x10]) rfl (fun _ => rfl) ?_
  refine pw_bip E (pc' := 38) rfl rfl (by decide) ?_
  refine pw_ii (f := fun x y => (x.toUInt32 >>> (y.toUInt32 &&& Int32.toUInt32 31)).toInt32) E (pc' := 39) rfl (fun _ => rfl) ?_
  intro x11 hx11a hx11b
  refine pw_add E (pc' := 40) rfl rfl ?_
  refine pw_nm (fun x12 hx12a hx12b => ?_)
  refine pw_istn E (pc' := 41) (ls' := [some (pw_i x12)]) rfl rfl rfl rfl ?_
  refine pw_ld E (pc' := 42) (st' := [pw_i x12]) rfl (fun _ => rfl) ?_
  refine pw_ld E (pc' := 43) (st' := [pw_i x12, pw_i x12]) rfl (fun _ => rfl) ?_
  refine pw_bip E (pc' := 45) rfl rfl (by decide) ?_
  refine pw_ii (f := fun x y => (x.toUInt32 >>> (y.toUInt32 &&& Int32.toUInt32 31)).toInt32) E (pc' := 46) rfl (fun _ => rfl) ?_
  intro x13 hx13a hx13b
  refine pw_add E (pc' := 47) rfl rfl ?_
  refine pw_nm (fun x14 hx14a hx14b => ?_)
  refine pw_istn E (pc' := 48) (ls' := [some (pw_i x14)]) rfl rfl rfl rfl ?_
  refine pw_ld E (pc' := 49) (st' := [pw_i x14]) rfl (fun _ => rfl) ?_
  refine pw_bip E (pc' := 51) rfl rfl (by decide) ?_
  refine pw_ii (f := fun x y => x &&& y) E (pc' := 52) rfl (fun _ => rfl) ?_
  intro x15 hx15a hx15b
  refine pw_iret E rfl ?_
  exact ⟨rfl, ⟨_, rfl, by omega, by omega⟩⟩
