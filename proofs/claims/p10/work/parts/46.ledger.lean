/-! contracts (printed by wip/tool/pwspec.py) -/
set_option maxHeartbeats 4000000 in
theorem cm_25 {X : List (Nat × List Value)} {d : Nat} {h : pm_H} (hd : 1 ≤ d) (I : pw_I h) (c : Nat) (hc : pw_Lg c) (c0 : Nat) (hc0 : pw_Lg c0) : pw X d h 25 0 [some (.ref (16 + c)), some (.ref (16 + c0))] [] (fun h' v => pw_I h' ∧ pw_E [c + 1] h h' ∧ v = .inl none) := by
  have E : pm_ent 25 = some (2, 2, 2, 4, pmc_25) := rfl
  have E0 : pw_E [c + 1] h h := pw_E.rf _ _
  refine pw_ld E (pc' := 1) (st' := [.ref (16 + c0)]) rfl (fun _ => rfl) ?_
  refine pw_getR (b := 16 + (c0 + 1)) I E (c := c0) (k := 0) (pc' := 4) rfl rfl (pw_Lg_o hc0) rfl rfl rfl rfl ?_
  refine pw_ld E (pc' := 5) (st' := [pw_i 0, .ref (16 + (c0 + 1))]) rfl (fun _ => rfl) ?_
  refine pw_ld E (pc' := 6) (st' := [.ref (16 + c), pw_i 0, .ref (16 + (c0 + 1))]) rfl (fun _ => rfl) ?_
  refine pw_getR (b := 16 + (c + 1)) I E (c := c) (k := 0) (pc' := 9) rfl rfl (pw_Lg_o hc) rfl rfl rfl rfl ?_
  refine pw_ld E (pc' := 10) (st' := [pw_i 0, .ref (16 + (c + 1)), pw_i 0, .ref (16 + (c0 + 1))]) rfl (fun _ => rfl) ?_
  refine pw_ld E (pc' := 11) (st' := [.ref (16 + c), pw_i 0, .ref (16 + (c + 1)), pw_i 0, .ref (16 + (c0 + 1))]) rfl (fun _ => rfl) ?_
  refine pw_getR (b := 16 + (c + 1)) I E (c := c) (k := 0) (pc' := 14) rfl rfl (pw_Lg_o hc) rfl rfl rfl rfl ?_
  obtain ⟨z1l, z1h, z1n, -⟩ := pw_arr (c := c + 1) I (pw_Lg_1 hc)
  refine pw_alen E (pc' := 15) rfl (pw_rowI z1h rfl) rfl rfl ?_
  rw [z1n]
  refine pw_copy I E (c := c0 + 1) (c2 := c + 1) rfl rfl (pw_Lg_1 hc0) (pw_Lg_1 hc) (by decide) rfl rfl rfl ?_
  intro h2 h2I h2E h2Q
  have h2F := E0.tr (h2E.wk (W' := [c + 1]) (by first | rfl | simp))
  refine pw_vret E rfl ?_
  exact ⟨h2I, h2F, rfl⟩
set_option maxHeartbeats 4000000 in
theorem cm_18 {X : List (Nat × List Value)} {d : Nat} {h : pm_H} (hd : 1 ≤ d) (I : pw_I h) (c : Nat) (hc : pw_Lg c) (k : Int) (hk1 : 0 ≤ k) (hk2 : k ≤ 23) (mo : Int) (hmo1 : 0 ≤ mo) (hmo2 : mo ≤ 11) (wh : Int) (hwh1 : 0 ≤ wh) (hwh2 : wh ≤ 99) (hf : Int) (hhf1 : 0 ≤ hf) (hhf2 : hf ≤ 99) : pw X d h 18 0 [some (.ref (16 + c)), some (pw_i k), some (pw_i mo), some (pw_i wh), some (pw_i hf)] [] (fun h' v => pw_I h' ∧ pw_E [c + 1] h h' ∧ v = .inl none) := by
  have E : pm_ent 18 = some (5, 5, 2, 4, pmc_18) := rfl
  have E0 : pw_E [c + 1] h h := pw_E.rf _ _
  refine pw_ld E (pc' := 1) (st' := [.ref (16 + c)]) rfl (fun _ => rfl) ?_
  refine pw_getR (b := 16 + (c + 1)) I E (c := c) (k := 0) (pc' := 4) rfl rfl (pw_Lg_o hc) rfl rfl rfl rfl ?_
  refine pw_ld E (pc' := 5) (st' := [pw_i k, .ref (16 + (c + 1))]) rfl (fun _ => rfl) ?_
  refine pw_bip E (pc' := 7) rfl rfl (by decide) ?_
  refine pw_mul E (pc' := 8) rfl rfl ?_
  refine pw_ld E (pc' := 9) (st' := [pw_i mo, pw_i (k * 12), .ref (16 + (c + 1))]) rfl (fun _ => rfl) ?_
  refine pw_add E (pc' := 10) rfl rfl ?_
  refine pw_ld E (pc' := 11) (st' := [pw_i wh, pw_i ((k * 12) + mo), .ref (16 + (c + 1))]) rfl (fun _ => rfl) ?_
  refine pw_bip E (pc' := 13) rfl rfl (by decide) ?_
  refine pw_mul E (pc' := 14) rfl rfl ?_
  refine pw_ld E (pc' := 16) (st' := [pw_i hf, pw_i (wh * 100), pw_i ((k * 12) + mo), .ref (16 + (c + 1))]) rfl (fun _ => rfl) ?_
  refine pw_add E (pc' := 17) rfl rfl ?_
  refine pw_ast0 I E (c := c + 1) (pc' := 18) rfl rfl (pw_Lg_1 hc) (by decide) rfl (by decide) (by omega) (by omega) rfl (by omega) (by omega) (by omega) (by omega) rfl ?_
  intro h1I h1E
  generalize h1w : pw_w h (c + 1) (((k * 12) + mo).toNat) (pw_i ((wh * 100) + hf)) = h1 at h1I h1E ⊢
  have h1F := E0.tr (h1E.wk (W' := [c + 1]) (by first | rfl | simp))
  refine pw_vret E rfl ?_
  exact ⟨h1I, h1F, rfl⟩
set_option maxHeartbeats 4000000 in
theorem cm_16 {X : List (Nat × List Value)} {d : Nat} {h : pm_H} (hd : 1 ≤ d) (I : pw_I h) (c : Nat) (hc : pw_Lg c) (k : Int) (hk1 : 0 ≤ k) (hk2 : k ≤ 23) (mo : Int) (hmo1 : 0 ≤ mo) (hmo2 : mo ≤ 11) : pw X d h 16 0 [some (.ref (16 + c)), some (pw_i k), some (pw_i mo)] [] (fun h' v => pw_I h' ∧ pw_E [c + 1] h h' ∧ v = .inl none) := by
  have E : pm_ent 16 = some (3, 3, 2, 4, pmc_16) := rfl
  have E0 : pw_E [c + 1] h h := pw_E.rf _ _
  refine pw_ld E (pc' := 1) (st' := [.ref (16 + c)]) rfl (fun _ => rfl) ?_
  refine pw_getR (b := 16 + (c + 1)) I E (c := c) (k := 0) (pc' := 4) rfl rfl (pw_Lg_o hc) rfl rfl rfl rfl ?_
  refine pw_ld E (pc' := 5) (st' := [pw_i k, .ref (16 + (c + 1))]) rfl (fun _ => rfl) ?_
  refine pw_bip E (pc' := 7) rfl rfl (by decide) ?_
  refine pw_mul E (pc' := 8) rfl rfl ?_
  refine pw_ld E (pc' := 9) (st' := [pw_i mo, pw_i (k * 12), .ref (16 + (c + 1))]) rfl (fun _ => rfl) ?_
  refine pw_add E (pc' := 10) rfl rfl ?_
  refine pw_ld E (pc' := 11) (st' := [pw_i ((-1)), pw_i ((k * 12) + mo), .ref (16 + (c + 1))]) rfl (fun _ => rfl) ?_
  refine pw_ast0 I E (c := c + 1) (pc' := 12) rfl rfl (pw_Lg_1 hc) (by decide) rfl (by decide) (by omega) (by omega) rfl (by omega) (by omega) (by omega) (by omega) rfl ?_
  intro h1I h1E
  generalize h1w : pw_w h (c + 1) (((k * 12) + mo).toNat) (pw_i ((-1))) = h1 at h1I h1E ⊢
  have h1F := E0.tr (h1E.wk (W' := [c + 1]) (by first | rfl | simp))
  refine pw_vret E rfl ?_
  exact ⟨h1I, h1F, rfl⟩
set_option maxHeartbeats 4000000 in
theorem cm_17 {X : List (Nat × List Value)} {d : Nat} {h : pm_H} (hd : 1 ≤ d) (I : pw_I h) (c : Nat) (hc : pw_Lg c) (k : Int) (hk1 : 0 ≤ k) (hk2 : k ≤ 23) (mo : Int) (hmo1 : 0 ≤ mo) (hmo2 : mo ≤ 11) : pw X d h 17 0 [some (.ref (16 + c)), some (pw_i k), some (pw_i mo)] [] (fun h' v => pw_I h' ∧ pw_E [c + 1] h h' ∧ v = .inl none) := by
  have E : pm_ent 17 = some (3, 3, 2, 4, pmc_17) := rfl
  have E0 : pw_E [c + 1] h h := pw_E.rf _ _
  refine pw_ld E (pc' := 1) (st' := [.ref (16 + c)]) rfl (fun _ => rfl) ?_
  refine pw_getR (b := 16 + (c + 1)) I E (c := c) (k := 0) (pc' := 4) rfl rfl (pw_Lg_o hc) rfl rfl rfl rfl ?_
  refine pw_ld E (pc' := 5) (st' := [pw_i k, .ref (16 + (c + 1))]) rfl (fun _ => rfl) ?_
  refine pw_bip E (pc' := 7) rfl rfl (by decide) ?_
  refine pw_mul E (pc' := 8) rfl rfl ?_
  refine pw_ld E (pc' := 9) (st' := [pw_i mo, pw_i (k * 12), .ref (16 + (c + 1))]) rfl (fun _ => rfl) ?_
  refine pw_add E (pc' := 10) rfl rfl ?_
  refine pw_bip E (pc' := 12) rfl rfl (by decide) ?_
  refine pw_ast0 I E (c := c + 1) (pc' := 13) rfl rfl (pw_Lg_1 hc) (by decide) rfl (by decide) (by omega) (by omega) rfl (by omega) (by omega) (by omega) (by omega) rfl ?_
  intro h1I h1E
  generalize h1w : pw_w h (c + 1) (((k * 12) + mo).toNat) (pw_i ((-2))) = h1 at h1I h1E ⊢
  have h1F := E0.tr (h1E.wk (W' := [c + 1]) (by first | rfl | simp))
  refine pw_vret E rfl ?_
  exact ⟨h1I, h1F, rfl⟩
set_option maxHeartbeats 4000000 in
theorem cm_19 {X : List (Nat × List Value)} {d : Nat} {h : pm_H} (hd : 1 ≤ d) (I : pw_I h) (c : Nat) (hc : pw_Lg c) (k : Int) (hk1 : 0 ≤ k) (hk2 : k ≤ 23) (mo : Int) (hmo1 : 0 ≤ mo) (hmo2 : mo ≤ 11) : pw X d h 19 0 [some (.ref (16 + c)), some (pw_i k), some (pw_i mo)] [] (fun h' v => h = h' ∧ ∃ a : Int, v = .inl (some (pw_i a)) ∧ 0 ≤ a ∧ a ≤ 1) := by
  have E : pm_ent 19 = some (3, 3, 2, 1, pmc_19) := rfl
  refine pw_ld E (pc' := 1) (st' := [.ref (16 + c)]) rfl (fun _ => rfl) ?_
  refine pw_getR (b := 16 + (c + 1)) I E (c := c) (k := 0) (pc' := 4) rfl rfl (pw_Lg_o hc) rfl rfl rfl rfl ?_
  refine pw_ld E (pc' := 5) (st' := [pw_i k, .ref (16 + (c + 1))]) rfl (fun _ => rfl) ?_
  refine pw_bip E (pc' := 7) rfl rfl (by decide) ?_
  refine pw_mul E (pc' := 8) rfl rfl ?_
  refine pw_ld E (pc' := 9) (st' := [pw_i mo, pw_i (k * 12), .ref (16 + (c + 1))]) rfl (fun _ => rfl) ?_
  refine pw_add E (pc' := 10) rfl rfl ?_
  refine pw_ald I E (c := c + 1) (pc' := 11) rfl rfl (pw_Lg_1 hc) (by decide) rfl (by decide) (by omega) (by omega) rfl (fun hf1a hf1b hf1c hf1d => ?_)
  refine pw_bip E (pc' := 13) rfl rfl (by decide) ?_
  refine pw_if2 E (pc' := 20) rfl (by decide) (by omega) (by omega) (by decide) (by decide) ?_ ?_
  · intro hc2
    have hc2 : pw_g h (c + 1) (((k * 12) + mo).toNat) ≠ ((-2) : Int) := hc2
    refine pw_ld E (pc' := 21) (st' := [pw_i 0]) rfl (fun _ => rfl) ?_
    refine pw_zret E rfl (by omega) ?_
    exact ⟨rfl, ⟨_, rfl, by omega, by omega⟩⟩
  · intro hc3
    have hc3 : ¬ (pw_g h (c + 1) (((k * 12) + mo).toNat) ≠ ((-2) : Int)) := hc3
    refine pw_ld E (pc' := 17) (st' := [pw_i 1]) rfl (fun _ => rfl) ?_
    refine pw_goto E (pc' := 21) rfl (by decide) ?_
    refine pw_zret E rfl (by omega) ?_
    exact ⟨rfl, ⟨_, rfl, by omega, by omega⟩⟩
set_option maxHeartbeats 4000000 in
theorem cm_26 {X : List (Nat × List Value)} {d : Nat} {h : pm_H} (hd : 1 ≤ d) (I : pw_I h) (c : Nat) (hc : pw_Lg c) (k : Int) (hk1 : 0 ≤ k) (hk2 : k ≤ 23) (mo : Int) (hmo1 : 0 ≤ mo) (hmo2 : mo ≤ 11) : pw X d h 26 0 [some (.ref (16 + c)), some (pw_i k), some (pw_i mo)] [] (fun h' v => h = h' ∧ ∃ a : Int, v = .inl (some (pw_i a)) ∧ 0 ≤ a ∧ a ≤ 1) := by
  have E : pm_ent 26 = some (3, 3, 2, 1, pmc_26) := rfl
  refine pw_ld E (pc' := 1) (st' := [.ref (16 + c)]) rfl (fun _ => rfl) ?_
  refine pw_getR (b := 16 + (c + 1)) I E (c := c) (k := 0) (pc' := 4) rfl rfl (pw_Lg_o hc) rfl rfl rfl rfl ?_
  refine pw_ld E (pc' := 5) (st' := [pw_i k, .ref (16 + (c + 1))]) rfl (fun _ => rfl) ?_
  refine pw_bip E (pc' := 7) rfl rfl (by decide) ?_
  refine pw_mul E (pc' := 8) rfl rfl ?_
  refine pw_ld E (pc' := 9) (st' := [pw_i mo, pw_i (k * 12), .ref (16 + (c + 1))]) rfl (fun _ => rfl) ?_
  refine pw_add E (pc' := 10) rfl rfl ?_
  refine pw_ald I E (c := c + 1) (pc' := 11) rfl rfl (pw_Lg_1 hc) (by decide) rfl (by decide) (by omega) (by omega) rfl (fun hf1a hf1b hf1c hf1d => ?_)
  refine pw_ld E (pc' := 12) (st' := [pw_i ((-1)), pw_i (pw_g h (c + 1) (((k * 12) + mo).toNat))]) rfl (fun _ => rfl) ?_
  refine pw_if2 E (pc' := 19) rfl (by decide) (by omega) (by omega) (by decide) (by decide) ?_ ?_
  · intro hc2
    have hc2 : pw_g h (c + 1) (((k * 12) + mo).toNat) ≠ ((-1) : Int) := hc2
    refine pw_ld E (pc' := 20) (st' := [pw_i 0]) rfl (fun _ => rfl) ?_
    refine pw_zret E rfl (by omega) ?_
    exact ⟨rfl, ⟨_, rfl, by omega, by omega⟩⟩
  · intro hc3
    have hc3 : ¬ (pw_g h (c + 1) (((k * 12) + mo).toNat) ≠ ((-1) : Int)) := hc3
    refine pw_ld E (pc' := 16) (st' := [pw_i 1]) rfl (fun _ => rfl) ?_
    refine pw_goto E (pc' := 20) rfl (by decide) ?_
    refine pw_zret E rfl (by omega) ?_
    exact ⟨rfl, ⟨_, rfl, by omega, by omega⟩⟩
set_option maxHeartbeats 4000000 in
theorem cm_23 {X : List (Nat × List Value)} {d : Nat} {h : pm_H} (hd : 2 ≤ d) (I : pw_I h) (c : Nat) (hc : pw_Lg c) (k : Int) (hk1 : 0 ≤ k) (hk2 : k ≤ 23) (b : Int) (hb1 : 0 ≤ b) (hb2 : b ≤ 11) (e : Int) (he1 : 0 ≤ e) (he2 : e ≤ 11) : pw X d h 23 0 [some (.ref (16 + c)), some (pw_i k), some (pw_i b), some (pw_i e)] [] (fun h' v => h = h' ∧ ∃ a : Int, v = .inl (some (pw_i a)) ∧ 0 ≤ a ∧ a ≤ 1) := by
  have E : pm_ent 23 = some (4, 4, 2, 1, pmc_23) := rfl
  refine pw_ld E (pc' := 1) (st' := [.ref (16 + c)]) rfl (fun _ => rfl) ?_
  refine pw_ld E (pc' := 2) (st' := [pw_i k, .ref (16 + c)]) rfl (fun _ => rfl) ?_
  refine pw_ld E (pc' := 3) (st' := [pw_i b, pw_i k, .ref (16 + c)]) rfl (fun _ => rfl) ?_
  obtain ⟨f1l, f1h, -⟩ := pw_obj (c := c) I (pw_Lg_o hc)
  refine pw_call (m' := 19) (As := [.ref (16 + c), pw_i k, pw_i b]) (rest := []) (ls'' := [some (.ref (16 + c)), some (pw_i k), some (pw_i b)]) (by omega) E rfl (fun _ => pw_iV rfl rfl rfl rfl (pw_cellI f1h rfl)) (rfl : pm_ent 19 = some (3, 3, 2, 1, pmc_19)) rfl rfl (cm_19 (by omega) I c hc (k) (by omega) (by omega) (b) (by omega) (by omega)) ?_
  rintro u3 v2 ⟨rfl, x4, rfl, hx4a, hx4b⟩
  refine ⟨_, rfl, ?_⟩
  show pw X d h 23 6 [some (.ref (16 + c)), some (pw_i k), some (pw_i b), some (pw_i e)] [pw_i x4] _
  refine pw_if E (pc' := 22) rfl (by decide) (by omega) (by omega) ?_ ?_
  · intro hc5
    have hc5 : x4 ≠ (0 : Int) := hc5
    refine pw_ld E (pc' := 23) (st' := [pw_i 0]) rfl (fun _ => rfl) ?_
    refine pw_zret E rfl (by omega) ?_
    exact ⟨rfl, ⟨_, rfl, by omega, by omega⟩⟩
  · intro hc6
    have hc6 : ¬ (x4 ≠ (0 : Int)) := hc6
    refine pw_ld E (pc' := 10) (st' := [.ref (16 + c)]) rfl (fun _ => rfl) ?_
    refine pw_ld E (pc' := 11) (st' := [pw_i k, .ref (16 + c)]) rfl (fun _ => rfl) ?_
    refine pw_ld E (pc' := 12) (st' := [pw_i e, pw_i k, .ref (16 + c)]) rfl (fun _ => rfl) ?_
    obtain ⟨f7l, f7h, -⟩ := pw_obj (c := c) I (pw_Lg_o hc)
    refine pw_call (m' := 19) (As := [.ref (16 + c), pw_i k, pw_i e]) (rest := []) (ls'' := [some (.ref (16 + c)), some (pw_i k), some (pw_i e)]) (by omega) E rfl (fun _ => pw_iV rfl rfl rfl rfl (pw_cellI f7h rfl)) (rfl : pm_ent 19 = some (3, 3, 2, 1, pmc_19)) rfl rfl (cm_19 (by omega) I c hc (k) (by omega) (by omega) (e) (by omega) (by omega)) ?_
    rintro u9 v8 ⟨rfl, x10, rfl, hx10a, hx10b⟩
    refine ⟨_, rfl, ?_⟩
    show pw X d h 23 15 [some (.ref (16 + c)), some (pw_i k), some (pw_i b), some (pw_i e)] [pw_i x10] _
    refine pw_if E (pc' := 22) rfl (by decide) (by omega) (by omega) ?_ ?_
    · intro hc11
      have hc11 : x10 ≠ (0 : Int) := hc11
      refine pw_ld E (pc' := 23) (st' := [pw_i 0]) rfl (fun _ => rfl) ?_
      refine pw_zret E rfl (by omega) ?_
      exact ⟨rfl, ⟨_, rfl, by omega, by omega⟩⟩
    · intro hc12
      have hc12 : ¬ (x10 ≠ (0 : Int)) := hc12
      refine pw_ld E (pc' := 19) (st' := [pw_i 1]) rfl (fun _ => rfl) ?_
      refine pw_goto E (pc' := 23) rfl (by decide) ?_
      refine pw_zret E rfl (by omega) ?_
      exact ⟨rfl, ⟨_, rfl, by omega, by omega⟩⟩
set_option maxHeartbeats 4000000 in
theorem cm_21 {X : List (Nat × List Value)} {d : Nat} {h : pm_H} (hd : 1 ≤ d) (I : pw_I h) (c : Nat) (hc : pw_Lg c) (k : Int) (hk1 : 0 ≤ k) (hk2 : k ≤ 23) (mo : Int) (hmo1 : 0 ≤ mo) (hmo2 : mo ≤ 11) : pw X d h 21 0 [some (.ref (16 + c)), some (pw_i k), some (pw_i mo)] [] (fun h' v => h = h' ∧ ∃ a : Int, v = .inl (some (pw_i a)) ∧ 0 ≤ a ∧ a ≤ 99) := by
  have E : pm_ent 21 = some (3, 3, 2, 0, pmc_21) := rfl
  refine pw_ld E (pc' := 1) (st' := [pw_i 0]) rfl (fun _ => rfl) ?_
  refine pw_ld E (pc' := 2) (st' := [.ref (16 + c), pw_i 0]) rfl (fun _ => rfl) ?_
  refine pw_getR (b := 16 + (c + 1)) I E (c := c) (k := 0) (pc' := 5) rfl rfl (pw_Lg_o hc) rfl rfl rfl rfl ?_
  refine pw_ld E (pc' := 6) (st' := [pw_i k, .ref (16 + (c + 1)), pw_i 0]) rfl (fun _ => rfl) ?_
  refine pw_bip E (pc' := 8) rfl rfl (by decide) ?_
  refine pw_mul E (pc' := 9) rfl rfl ?_
  refine pw_ld E (pc' := 10) (st' := [pw_i mo, pw_i (k * 12), .ref (16 + (c + 1)), pw_i 0]) rfl (fun _ => rfl) ?_
  refine pw_add E (pc' := 11) rfl rfl ?_
  refine pw_ald I E (c := c + 1) (pc' := 12) rfl rfl (pw_Lg_1 hc) (by decide) rfl (by decide) (by omega) (by omega) rfl (fun hf1a hf1b hf1c hf1d => ?_)
  refine pw_max E rfl rfl (by decide) (by decide) (by omega) (by omega) rfl ?_
  refine pw_bip E (pc' := 17) rfl rfl (by decide) ?_
  refine pw_div E (pc' := 18) rfl rfl (by omega) (by omega) (by decide) (by decide) ?_
  refine pw_iret E rfl ?_
  exact ⟨rfl, ⟨_, rfl, by omega, by omega⟩⟩
set_option maxHeartbeats 4000000 in
theorem cm_22 {X : List (Nat × List Value)} {d : Nat} {h : pm_H} (hd : 1 ≤ d) (I : pw_I h) (c : Nat) (hc : pw_Lg c) (k : Int) (hk1 : 0 ≤ k) (hk2 : k ≤ 23) (mo : Int) (hmo1 : 0 ≤ mo) (hmo2 : mo ≤ 11) : pw X d h 22 0 [some (.ref (16 + c)), some (pw_i k), some (pw_i mo)] [] (fun h' v => h = h' ∧ ∃ a : Int, v = .inl (some (pw_i a)) ∧ 0 ≤ a ∧ a ≤ 99) := by
  have E : pm_ent 22 = some (3, 3, 2, 0, pmc_22) := rfl
  refine pw_ld E (pc' := 1) (st' := [pw_i 0]) rfl (fun _ => rfl) ?_
  refine pw_ld E (pc' := 2) (st' := [.ref (16 + c), pw_i 0]) rfl (fun _ => rfl) ?_
  refine pw_getR (b := 16 + (c + 1)) I E (c := c) (k := 0) (pc' := 5) rfl rfl (pw_Lg_o hc) rfl rfl rfl rfl ?_
  refine pw_ld E (pc' := 6) (st' := [pw_i k, .ref (16 + (c + 1)), pw_i 0]) rfl (fun _ => rfl) ?_
  refine pw_bip E (pc' := 8) rfl rfl (by decide) ?_
  refine pw_mul E (pc' := 9) rfl rfl ?_
  refine pw_ld E (pc' := 10) (st' := [pw_i mo, pw_i (k * 12), .ref (16 + (c + 1)), pw_i 0]) rfl (fun _ => rfl) ?_
  refine pw_add E (pc' := 11) rfl rfl ?_
  refine pw_ald I E (c := c + 1) (pc' := 12) rfl rfl (pw_Lg_1 hc) (by decide) rfl (by decide) (by omega) (by omega) rfl (fun hf1a hf1b hf1c hf1d => ?_)
  refine pw_max E rfl rfl (by decide) (by decide) (by omega) (by omega) rfl ?_
  refine pw_bip E (pc' := 17) rfl rfl (by decide) ?_
  refine pw_rem E (pc' := 18) rfl rfl (by omega) (by omega) (by decide) (by decide) ?_
  refine pw_iret E rfl ?_
  exact ⟨rfl, ⟨_, rfl, by omega, by omega⟩⟩
set_option maxHeartbeats 4000000 in
theorem cm_20 {X : List (Nat × List Value)} {d : Nat} {h : pm_H} (hd : 2 ≤ d) (I : pw_I h) (c : Nat) (hc : pw_Lg c) (k : Int) (hk1 : 0 ≤ k) (hk2 : k ≤ 23) (mo : Int) (hmo1 : 0 ≤ mo) (hmo2 : mo ≤ 11) (t : Int) (ht1 : (-2147483648) ≤ t) (ht2 : t ≤ 2147483647) : pw X d h 20 0 [some (.ref (16 + c)), some (pw_i k), some (pw_i mo), some (pw_i t)] [] (fun h' v => h = h' ∧ ∃ a : Int, v = .inl (some (pw_i a)) ∧ (-2147483648) ≤ a ∧ a ≤ 2147483647) := by
  have E : pm_ent 20 = some (4, 4, 2, 0, pmc_20) := rfl
  refine pw_ld E (pc' := 1) (st' := [.ref (16 + c)]) rfl (fun _ => rfl) ?_
  refine pw_ld E (pc' := 2) (st' := [pw_i k, .ref (16 + c)]) rfl (fun _ => rfl) ?_
  refine pw_ld E (pc' := 3) (st' := [pw_i mo, pw_i k, .ref (16 + c)]) rfl (fun _ => rfl) ?_
  obtain ⟨f1l, f1h, -⟩ := pw_obj (c := c) I (pw_Lg_o hc)
  refine pw_call (m' := 21) (As := [.ref (16 + c), pw_i k, pw_i mo]) (rest := []) (ls'' := [some (.ref (16 + c)), some (pw_i k), some (pw_i mo)]) (by omega) E rfl (fun _ => pw_iV rfl rfl rfl rfl (pw_cellI f1h rfl)) (rfl : pm_ent 21 = some (3, 3, 2, 0, pmc_21)) rfl rfl (cm_21 (by omega) I c hc (k) (by omega) (by omega) (mo) (by omega) (by omega)) ?_
  rintro u3 v2 ⟨rfl, x4, rfl, hx4a, hx4b⟩
  refine ⟨_, rfl, ?_⟩
  show pw X d h 20 6 [some (.ref (16 + c)), some (pw_i k), some (pw_i mo), some (pw_i t)] [pw_i x4] _
  refine pw_bip E (pc' := 8) rfl rfl (by decide) ?_
  refine pw_mul E (pc' := 9) rfl rfl ?_
  refine pw_ld E (pc' := 10) (st' := [.ref (16 + c), pw_i (x4 * 10)]) rfl (fun _ => rfl) ?_
  refine pw_ld E (pc' := 11) (st' := [pw_i k, .ref (16 + c), pw_i (x4 * 10)]) rfl (fun _ => rfl) ?_
  refine pw_ld E (pc' := 12) (st' := [pw_i mo, pw_i k, .ref (16 + c), pw_i (x4 * 10)]) rfl (fun _ => rfl) ?_
  obtain ⟨f5l, f5h, -⟩ := pw_obj (c := c) I (pw_Lg_o hc)
  refine pw_call (m' := 22) (As := [.ref (16 + c), pw_i k, pw_i mo]) (rest := [pw_i (x4 * 10)]) (ls'' := [some (.ref (16 + c)), some (pw_i k), some (pw_i mo)]) (by omega) E rfl (fun _ => pw_iV rfl rfl rfl rfl (pw_cellI f5h rfl)) (rfl : pm_ent 22 = some (3, 3, 2, 0, pmc_22)) rfl rfl (cm_22 (by omega) I c hc (k) (by omega) (by omega) (mo) (by omega) (by omega)) ?_
  rintro u7 v6 ⟨rfl, x8, rfl, hx8a, hx8b⟩
  refine ⟨_, rfl, ?_⟩
  show pw X d h 20 15 [some (.ref (16 + c)), some (pw_i k), some (pw_i mo), some (pw_i t)] [pw_i x8, pw_i (x4 * 10)] _
  refine pw_ld E (pc' := 16) (st' := [pw_i t, pw_i x8, pw_i (x4 * 10)]) rfl (fun _ => rfl) ?_
  refine pw_mul E (pc' := 17) rfl rfl ?_
  refine pw_nm (fun x9 hx9a hx9b => ?_)
  refine pw_add E (pc' := 18) rfl rfl ?_
  refine pw_nm (fun x10 hx10a hx10b => ?_)
  refine pw_iret E rfl ?_
  exact ⟨rfl, ⟨_, rfl, by omega, by omega⟩⟩
set_option maxHeartbeats 4000000 in
theorem cm_24 {X : List (Nat × List Value)} {d : Nat} {h : pm_H} (hd : 3 ≤ d) (I : pw_I h) (c : Nat) (hc : pw_Lg c) (k : Int) (hk1 : 0 ≤ k) (hk2 : k ≤ 23) (b : Int) (hb1 : 0 ≤ b) (hb2 : b ≤ 11) (e : Int) (he1 : 0 ≤ e) (he2 : e ≤ 11) (t : Int) (ht1 : (-2147483648) ≤ t) (ht2 : t ≤ 2147483647) : pw X d h 24 0 [some (.ref (16 + c)), some (pw_i k), some (pw_i b), some (pw_i e), some (pw_i t)] [] (fun h' v => h = h' ∧ ∃ a : Int, v = .inl (some (pw_i a)) ∧ (-2147483648) ≤ a ∧ a ≤ 2147483647) := by
  have E : pm_ent 24 = some (5, 5, 2, 0, pmc_24) := rfl
  refine pw_ld E (pc' := 1) (st' := [.ref (16 + c)]) rfl (fun _ => rfl) ?_
  refine pw_ld E (pc' := 2) (st' := [pw_i k, .ref (16 + c)]) rfl (fun _ => rfl) ?_
  refine pw_ld E (pc' := 3) (st' := [pw_i e, pw_i k, .ref (16 + c)]) rfl (fun _ => rfl) ?_
  refine pw_ld E (pc' := 5) (st' := [pw_i t, pw_i e, pw_i k, .ref (16 + c)]) rfl (fun _ => rfl) ?_
  obtain ⟨f1l, f1h, -⟩ := pw_obj (c := c) I (pw_Lg_o hc)
  refine pw_call (m' := 20) (As := [.ref (16 + c), pw_i k, pw_i e, pw_i t]) (rest := []) (ls'' := [some (.ref (16 + c)), some (pw_i k), some (pw_i e), some (pw_i t)]) (by omega) E rfl (fun _ => pw_iV rfl rfl rfl rfl (pw_cellI f1h rfl)) (rfl : pm_ent 20 = some (4, 4, 2, 0, pmc_20)) rfl rfl (cm_20 (by omega) I c hc (k) (by omega) (by omega) (e) (by omega) (by omega) (t) (by omega) (by omega)) ?_
  rintro u3 v2 ⟨rfl, x4, rfl, hx4a, hx4b⟩
  refine ⟨_, rfl, ?_⟩
  show pw X d h 24 8 [some (.ref (16 + c)), some (pw_i k), some (pw_i b), some (pw_i e), some (pw_i t)] [pw_i x4] _
  refine pw_ld E (pc' := 9) (st' := [.ref (16 + c), pw_i x4]) rfl (fun _ => rfl) ?_
  refine pw_ld E (pc' := 10) (st' := [pw_i k, .ref (16 + c), pw_i x4]) rfl (fun _ => rfl) ?_
  refine pw_ld E (pc' := 11) (st' := [pw_i b, pw_i k, .ref (16 + c), pw_i x4]) rfl (fun _ => rfl) ?_
  refine pw_ld E (pc' := 13) (st' := [pw_i t, pw_i b, pw_i k, .ref (16 + c), pw_i x4]) rfl (fun _ => rfl) ?_
  obtain ⟨f5l, f5h, -⟩ := pw_obj (c := c) I (pw_Lg_o hc)
  refine pw_call (m' := 20) (As := [.ref (16 + c), pw_i k, pw_i b, pw_i t]) (rest := [pw_i x4]) (ls'' := [some (.ref (16 + c)), some (pw_i k), some (pw_i b), some (pw_i t)]) (by omega) E rfl (fun _ => pw_iV rfl rfl rfl rfl (pw_cellI f5h rfl)) (rfl : pm_ent 20 = some (4, 4, 2, 0, pmc_20)) rfl rfl (cm_20 (by omega) I c hc (k) (by omega) (by omega) (b) (by omega) (by omega) (t) (by omega) (by omega)) ?_
  rintro u7 v6 ⟨rfl, x8, rfl, hx8a, hx8b⟩
  refine ⟨_, rfl, ?_⟩
  show pw X d h 24 16 [some (.ref (16 + c)), some (pw_i k), some (pw_i b), some (pw_i e), some (pw_i t)] [pw_i x8, pw_i x4] _
  refine pw_sub E (pc' := 17) rfl rfl ?_
  refine pw_nm (fun x9 hx9a hx9b => ?_)
  refine pw_iret E rfl ?_
  exact ⟨rfl, ⟨_, rfl, by omega, by omega⟩⟩
set_option maxHeartbeats 4000000 in
theorem cm_27 {X : List (Nat × List Value)} {d : Nat} {h : pm_H} (hd : 2 ≤ d) (I : pw_I h) (c : Nat) (hc : pw_Lg c) (k : Int) (hk1 : 0 ≤ k) (hk2 : k ≤ 23) : pw X d h 27 0 [some (.ref (16 + c)), some (pw_i k), none, none] [] (fun h' v => h = h' ∧ ∃ a : Int, v = .inl (some (pw_i a)) ∧ (-2147483648) ≤ a ∧ a ≤ 2147483647) := by
  have E : pm_ent 27 = some (2, 4, 2, 0, pmc_27) := rfl
  refine pw_ld E (pc' := 1) (st' := [pw_i 0]) rfl (fun _ => rfl) ?_
  refine pw_istn E (pc' := 2) (ls' := [some (.ref (16 + c)), some (pw_i k), some (pw_i 0), none]) rfl rfl rfl rfl ?_
  refine pw_ld E (pc' := 3) (st' := [pw_i 0]) rfl (fun _ => rfl) ?_
  refine pw_istn E (pc' := 4) (ls' := [some (.ref (16 + c)), some (pw_i k), some (pw_i 0), some (pw_i 0)]) rfl rfl rfl rfl ?_
  have L4 : ∀ (n4 : Nat) (k4_2 : Int) (k4_3 : Int), (-2147483648) ≤ k4_2 → k4_2 ≤ 2147483647 → 0 ≤ k4_3 → k4_3 ≤ 12 → (12 - k4_3).toNat = n4 → pw X d h 27 4 [some (.ref (16 + c)), some (pw_i k), some (pw_i k4_2), some (pw_i k4_3)] [] (fun h' v => h = h' ∧ ∃ a : Int, v = .inl (some (pw_i a)) ∧ (-2147483648) ≤ a ∧ a ≤ 2147483647) := by
    intro n4
    induction n4 using Nat.strongRecOn with
    | ind n4 ih4 =>
      intro k4_2 k4_3 k4_2a k4_2b k4_3a k4_3b hm4
      refine pw_ld E (pc' := 5) (st' := [pw_i k4_3]) rfl (fun _ => rfl) ?_
      refine pw_bip E (pc' := 7) rfl rfl (by decide) ?_
      refine pw_if2 E (pc' := 33) rfl (by decide) (by omega) (by omega) (by decide) (by decide) ?_ ?_
      · intro hc1
        have hc1 : (12 : Int) ≤ k4_3 := hc1
        refine pw_ld E (pc' := 34) (st' := [pw_i k4_2]) rfl (fun _ => rfl) ?_
        refine pw_iret E rfl ?_
        exact ⟨rfl, ⟨_, rfl, by omega, by omega⟩⟩
      · intro hc2
        have hc2 : ¬ ((12 : Int) ≤ k4_3) := hc2
        refine pw_ld E (pc' := 11) (st' := [pw_i k4_2]) rfl (fun _ => rfl) ?_
        refine pw_ld E (pc' := 12) (st' := [.ref (16 + c), pw_i k4_2]) rfl (fun _ => rfl) ?_
        refine pw_ld E (pc' := 13) (st' := [pw_i k, .ref (16 + c), pw_i k4_2]) rfl (fun _ => rfl) ?_
        refine pw_ld E (pc' := 14) (st' := [pw_i k4_3, pw_i k, .ref (16 + c), pw_i k4_2]) rfl (fun _ => rfl) ?_
        obtain ⟨f3l, f3h, -⟩ := pw_obj (c := c) I (pw_Lg_o hc)
        refine pw_call (m' := 19) (As := [.ref (16 + c), pw_i k, pw_i k4_3]) (rest := [pw_i k4_2]) (ls'' := [some (.ref (16 + c)), some (pw_i k), some (pw_i k4_3)]) (by omega) E rfl (fun _ => pw_iV rfl rfl rfl rfl (pw_cellI f3h rfl)) (rfl : pm_ent 19 = some (3, 3, 2, 1, pmc_19)) rfl rfl (cm_19 (by omega) I c hc (k) (by omega) (by omega) (k4_3) (by omega) (by omega)) ?_
        rintro u5 v4 ⟨rfl, x6, rfl, hx6a, hx6b⟩
        refine ⟨_, rfl, ?_⟩
        show pw X d h 27 17 [some (.ref (16 + c)), some (pw_i k), some (pw_i k4_2), some (pw_i k4_3)] [pw_i x6, pw_i k4_2] _
        refine pw_if E (pc' := 24) rfl (by decide) (by omega) (by omega) ?_ ?_
        · intro hc7
          have hc7 : x6 = (0 : Int) := hc7
          refine pw_ld E (pc' := 25) (st' := [pw_i 0, pw_i k4_2]) rfl (fun _ => rfl) ?_
          refine pw_add E (pc' := 26) rfl rfl ?_
          refine pw_istn E (pc' := 27) (ls' := [some (.ref (16 + c)), some (pw_i k), some (pw_i (k4_2 + 0)), some (pw_i k4_3)]) rfl rfl rfl rfl ?_
          refine pw_inc E (pc' := 30) (ls' := [some (.ref (16 + c)), some (pw_i k), some (pw_i (k4_2 + 0)), some (pw_i (k4_3 + 1))]) rfl rfl rfl rfl ?_
          refine pw_goto E (pc' := 4) rfl (by decide) ?_
          exact ih4 _ (by omega) (k4_2 + 0) (k4_3 + 1)  (by omega) (by omega) (by omega) (by omega)  rfl
        · intro hc8
          have hc8 : ¬ (x6 = (0 : Int)) := hc8
          refine pw_ld E (pc' := 21) (st' := [pw_i 1, pw_i k4_2]) rfl (fun _ => rfl) ?_
          refine pw_goto E (pc' := 25) rfl (by decide) ?_
          refine pw_add E (pc' := 26) rfl rfl ?_
          refine pw_nm (fun x9 hx9a hx9b => ?_)
          refine pw_istn E (pc' := 27) (ls' := [some (.ref (16 + c)), some (pw_i k), some (pw_i x9), some (pw_i k4_3)]) rfl rfl rfl rfl ?_
          refine pw_inc E (pc' := 30) (ls' := [some (.ref (16 + c)), some (pw_i k), some (pw_i x9), some (pw_i (k4_3 + 1))]) rfl rfl rfl rfl ?_
          refine pw_goto E (pc' := 4) rfl (by decide) ?_
          exact ih4 _ (by omega) (x9) (k4_3 + 1)  (by omega) (by omega) (by omega) (by omega)  rfl
  exact L4 _ (0) (0)  (by omega) (by omega) (by omega) (by omega)  rfl
set_option maxHeartbeats 4000000 in
theorem cm_28 {X : List (Nat × List Value)} {d : Nat} {h : pm_H} (hd : 2 ≤ d) (I : pw_I h) (c : Nat) (hc : pw_Lg c) (k : Int) (hk1 : 0 ≤ k) (hk2 : k ≤ 23) : pw X d h 28 0 [some (.ref (16 + c)), some (pw_i k), none, none] [] (fun h' v => h = h' ∧ ∃ a : Int, v = .inl (some (pw_i a)) ∧ (-2147483648) ≤ a ∧ a ≤ 2147483647) := by
  have E : pm_ent 28 = some (2, 4, 2, 0, pmc_28) := rfl
  refine pw_ld E (pc' := 1) (st' := [pw_i 0]) rfl (fun _ => rfl) ?_
  refine pw_istn E (pc' := 2) (ls' := [some (.ref (16 + c)), some (pw_i k), some (pw_i 0), none]) rfl rfl rfl rfl ?_
  refine pw_ld E (pc' := 3) (st' := [pw_i 0]) rfl (fun _ => rfl) ?_
  refine pw_istn E (pc' := 4) (ls' := [some (.ref (16 + c)), some (pw_i k), some (pw_i 0), some (pw_i 0)]) rfl rfl rfl rfl ?_
  have L4 : ∀ (n4 : Nat) (k4_2 : Int) (k4_3 : Int), (-2147483648) ≤ k4_2 → k4_2 ≤ 2147483647 → 0 ≤ k4_3 → k4_3 ≤ 12 → (12 - k4_3).toNat = n4 → pw X d h 28 4 [some (.ref (16 + c)), some (pw_i k), some (pw_i k4_2), some (pw_i k4_3)] [] (fun h' v => h = h' ∧ ∃ a : Int, v = .inl (some (pw_i a)) ∧ (-2147483648) ≤ a ∧ a ≤ 2147483647) := by
    intro n4
    induction n4 using Nat.strongRecOn with
    | ind n4 ih4 =>
      intro k4_2 k4_3 k4_2a k4_2b k4_3a k4_3b hm4
      refine pw_ld E (pc' := 5) (st' := [pw_i k4_3]) rfl (fun _ => rfl) ?_
      refine pw_bip E (pc' := 7) rfl rfl (by decide) ?_
      refine pw_if2 E (pc' := 33) rfl (by decide) (by omega) (by omega) (by decide) (by decide) ?_ ?_
      · intro hc1
        have hc1 : (12 : Int) ≤ k4_3 := hc1
        refine pw_ld E (pc' := 34) (st' := [pw_i k4_2]) rfl (fun _ => rfl) ?_
        refine pw_iret E rfl ?_
        exact ⟨rfl, ⟨_, rfl, by omega, by omega⟩⟩
      · intro hc2
        have hc2 : ¬ ((12 : Int) ≤ k4_3) := hc2
        refine pw_ld E (pc' := 11) (st' := [pw_i k4_2]) rfl (fun _ => rfl) ?_
        refine pw_ld E (pc' := 12) (st' := [.ref (16 + c), pw_i k4_2]) rfl (fun _ => rfl) ?_
        refine pw_ld E (pc' := 13) (st' := [pw_i k, .ref (16 + c), pw_i k4_2]) rfl (fun _ => rfl) ?_
        refine pw_ld E (pc' := 14) (st' := [pw_i k4_3, pw_i k, .ref (16 + c), pw_i k4_2]) rfl (fun _ => rfl) ?_
        obtain ⟨f3l, f3h, -⟩ := pw_obj (c := c) I (pw_Lg_o hc)
        refine pw_call (m' := 26) (As := [.ref (16 + c), pw_i k, pw_i k4_3]) (rest := [pw_i k4_2]) (ls'' := [some (.ref (16 + c)), some (pw_i k), some (pw_i k4_3)]) (by omega) E rfl (fun _ => pw_iV rfl rfl rfl rfl (pw_cellI f3h rfl)) (rfl : pm_ent 26 = some (3, 3, 2, 1, pmc_26)) rfl rfl (cm_26 (by omega) I c hc (k) (by omega) (by omega) (k4_3) (by omega) (by omega)) ?_
        rintro u5 v4 ⟨rfl, x6, rfl, hx6a, hx6b⟩
        refine ⟨_, rfl, ?_⟩
        show pw X d h 28 17 [some (.ref (16 + c)), some (pw_i k), some (pw_i k4_2), some (pw_i k4_3)] [pw_i x6, pw_i k4_2] _
        refine pw_if E (pc' := 24) rfl (by decide) (by omega) (by omega) ?_ ?_
        · intro hc7
          have hc7 : x6 = (0 : Int) := hc7
          refine pw_ld E (pc' := 25) (st' := [pw_i 0, pw_i k4_2]) rfl (fun _ => rfl) ?_
          refine pw_add E (pc' := 26) rfl rfl ?_
          refine pw_istn E (pc' := 27) (ls' := [some (.ref (16 + c)), some (pw_i k), some (pw_i (k4_2 + 0)), some (pw_i k4_3)]) rfl rfl rfl rfl ?_
          refine pw_inc E (pc' := 30) (ls' := [some (.ref (16 + c)), some (pw_i k), some (pw_i (k4_2 + 0)), some (pw_i (k4_3 + 1))]) rfl rfl rfl rfl ?_
          refine pw_goto E (pc' := 4) rfl (by decide) ?_
          exact ih4 _ (by omega) (k4_2 + 0) (k4_3 + 1)  (by omega) (by omega) (by omega) (by omega)  rfl
        · intro hc8
          have hc8 : ¬ (x6 = (0 : Int)) := hc8
          refine pw_ld E (pc' := 21) (st' := [pw_i 1, pw_i k4_2]) rfl (fun _ => rfl) ?_
          refine pw_goto E (pc' := 25) rfl (by decide) ?_
          refine pw_add E (pc' := 26) rfl rfl ?_
          refine pw_nm (fun x9 hx9a hx9b => ?_)
          refine pw_istn E (pc' := 27) (ls' := [some (.ref (16 + c)), some (pw_i k), some (pw_i x9), some (pw_i k4_3)]) rfl rfl rfl rfl ?_
          refine pw_inc E (pc' := 30) (ls' := [some (.ref (16 + c)), some (pw_i k), some (pw_i x9), some (pw_i (k4_3 + 1))]) rfl rfl rfl rfl ?_
          refine pw_goto E (pc' := 4) rfl (by decide) ?_
          exact ih4 _ (by omega) (x9) (k4_3 + 1)  (by omega) (by omega) (by omega) (by omega)  rfl
  exact L4 _ (0) (0)  (by omega) (by omega) (by omega) (by omega)  rfl
set_option maxHeartbeats 4000000 in
theorem cm_29 {X : List (Nat × List Value)} {d : Nat} {h : pm_H} (hd : 1 ≤ d) (I : pw_I h) (c : Nat) (hc : pw_Lg c) : pw X d h 29 0 [some (.ref (16 + c)), none, none] [] (fun h' v => h = h' ∧ ∃ a : Int, v = .inl (some (pw_i a)) ∧ (-2147483648) ≤ a ∧ a ≤ 2147483647) := by
  have E : pm_ent 29 = some (1, 3, 2, 0, pmc_29) := rfl
  refine pw_ld E (pc' := 1) (st' := [pw_i 0]) rfl (fun _ => rfl) ?_
  refine pw_istn E (pc' := 2) (ls' := [some (.ref (16 + c)), some (pw_i 0), none]) rfl rfl rfl rfl ?_
  refine pw_ld E (pc' := 3) (st' := [pw_i 0]) rfl (fun _ => rfl) ?_
  refine pw_istn E (pc' := 4) (ls' := [some (.ref (16 + c)), some (pw_i 0), some (pw_i 0)]) rfl rfl rfl rfl ?_
  have L4 : ∀ (n4 : Nat) (k4_1 : Int) (k4_2 : Int), (-2147483648) ≤ k4_1 → k4_1 ≤ 2147483647 → 0 ≤ k4_2 → k4_2 ≤ 288 → (288 - k4_2).toNat = n4 → pw X d h 29 4 [some (.ref (16 + c)), some (pw_i k4_1), some (pw_i k4_2)] [] (fun h' v => h = h' ∧ ∃ a : Int, v = .inl (some (pw_i a)) ∧ (-2147483648) ≤ a ∧ a ≤ 2147483647) := by
    intro n4
    induction n4 using Nat.strongRecOn with
    | ind n4 ih4 =>
      intro k4_1 k4_2 k4_1a k4_1b k4_2a k4_2b hm4
      refine pw_ld E (pc' := 5) (st' := [pw_i k4_2]) rfl (fun _ => rfl) ?_
      refine pw_ld E (pc' := 6) (st' := [.ref (16 + c), pw_i k4_2]) rfl (fun _ => rfl) ?_
      refine pw_getR (b := 16 + (c + 1)) I E (c := c) (k := 0) (pc' := 9) rfl rfl (pw_Lg_o hc) rfl rfl rfl rfl ?_
      obtain ⟨z1l, z1h, z1n, -⟩ := pw_arr (c := c + 1) I (pw_Lg_1 hc)
      refine pw_alen E (pc' := 10) rfl (pw_rowI z1h rfl) rfl rfl ?_
      rw [z1n]
      refine pw_if2 E (pc' := 38) rfl (by decide) (by omega) (by omega) (by decide) (by decide) ?_ ?_
      · intro hc2
        have hc2 : (288 : Nat) ≤ k4_2 := hc2
        refine pw_ld E (pc' := 39) (st' := [pw_i k4_1]) rfl (fun _ => rfl) ?_
        refine pw_iret E rfl ?_
        exact ⟨rfl, ⟨_, rfl, by omega, by omega⟩⟩
      · intro hc3
        have hc3 : ¬ ((288 : Nat) ≤ k4_2) := hc3
        refine pw_ld E (pc' := 14) (st' := [pw_i k4_1]) rfl (fun _ => rfl) ?_
        refine pw_ld E (pc' := 15) (st' := [.ref (16 + c), pw_i k4_1]) rfl (fun _ => rfl) ?_
        refine pw_getR (b := 16 + (c + 1)) I E (c := c) (k := 0) (pc' := 18) rfl rfl (pw_Lg_o hc) rfl rfl rfl rfl ?_
        refine pw_ld E (pc' := 19) (st' := [pw_i k4_2, .ref (16 + (c + 1)), pw_i k4_1]) rfl (fun _ => rfl) ?_
        refine pw_ald I E (c := c + 1) (pc' := 20) rfl rfl (pw_Lg_1 hc) (by decide) rfl (by decide) (by omega) (by omega) rfl (fun hf4a hf4b hf4c hf4d => ?_)
        refine pw_bip E (pc' := 22) rfl rfl (by decide) ?_
        refine pw_if2 E (pc' := 29) rfl (by decide) (by omega) (by omega) (by decide) (by decide) ?_ ?_
        · intro hc5
          have hc5 : pw_g h (c + 1) (k4_2.toNat) = ((-2) : Int) := hc5
          refine pw_ld E (pc' := 30) (st' := [pw_i 0, pw_i k4_1]) rfl (fun _ => rfl) ?_
          refine pw_add E (pc' := 31) rfl rfl ?_
          refine pw_istn E (pc' := 32) (ls' := [some (.ref (16 + c)), some (pw_i (k4_1 + 0)), some (pw_i k4_2)]) rfl rfl rfl rfl ?_
          refine pw_inc E (pc' := 35) (ls' := [some (.ref (16 + c)), some (pw_i (k4_1 + 0)), some (pw_i (k4_2 + 1))]) rfl rfl rfl rfl ?_
          refine pw_goto E (pc' := 4) rfl (by decide) ?_
          exact ih4 _ (by omega) (k4_1 + 0) (k4_2 + 1)  (by omega) (by omega) (by omega) (by omega)  rfl
        · intro hc6
          have hc6 : ¬ (pw_g h (c + 1) (k4_2.toNat) = ((-2) : Int)) := hc6
          refine pw_ld E (pc' := 26) (st' := [pw_i 1, pw_i k4_1]) rfl (fun _ => rfl) ?_
          refine pw_goto E (pc' := 30) rfl (by decide) ?_
          refine pw_add E (pc' := 31) rfl rfl ?_
          refine pw_nm (fun x7 hx7a hx7b => ?_)
          refine pw_istn E (pc' := 32) (ls' := [some (.ref (16 + c)), some (pw_i x7), some (pw_i k4_2)]) rfl rfl rfl rfl ?_
          refine pw_inc E (pc' := 35) (ls' := [some (.ref (16 + c)), some (pw_i x7), some (pw_i (k4_2 + 1))]) rfl rfl rfl rfl ?_
          refine pw_goto E (pc' := 4) rfl (by decide) ?_
          exact ih4 _ (by omega) (x7) (k4_2 + 1)  (by omega) (by omega) (by omega) (by omega)  rfl
  exact L4 _ (0) (0)  (by omega) (by omega) (by omega) (by omega)  rfl
