section
/-! the class's Readers, exactly -/
set_option maxHeartbeats 4000000 in
theorem cm_71_x {X : List (Nat × List Value)} {d : Nat} {h : pm_H} (hd : 1 ≤ d) (I : pw_I h) (li : Int) (hli1 : 0 ≤ li) (hli2 : li ≤ 3) (wd : Int) (hwd1 : (-2147483648) ≤ wd) (hwd2 : wd ≤ 2147483647) (hp0 : pw_g h 30 1 ≤ 999) : pw X d h 71 0 [some (.ref 46), some (pw_i li), some (pw_i wd)] [] (fun h' v => pw_I h' ∧ pw_E [30, 33, 36] h h' ∧ (px_EM h h' li wd) ∧ (v = .inl none)) := by
  have E : pm_ent 71 = some (3, 3, 7, 4, pmc_71) := rfl
  have E0 : pw_E [30, 33, 36] h h := pw_E.rf _ _
  refine pw_ld E (pc' := 1) (st' := [.ref 46]) rfl (fun _ => rfl) ?_
  refine pw_getI2 I E (c := 30) (k := 1) (pc' := 4) rfl rfl rfl rfl rfl rfl (fun hf1a hf1b => ?_)
  refine pw_ld E (pc' := 5) (st' := [.ref 46, pw_i (pw_g h 30 1)]) rfl (fun _ => rfl) ?_
  refine pw_getR (b := 52) I E (c := 30) (k := 0) (pc' := 8) rfl rfl rfl rfl rfl rfl rfl ?_
  obtain ⟨z2l, z2h, z2n, -⟩ := pw_arr (c := 36) I rfl
  refine pw_alen E (pc' := 9) rfl (pw_rowI z2h rfl) rfl rfl ?_
  rw [z2n]
  refine pw_if2 E (pc' := 42) rfl (by decide) (by omega) (by omega) (by decide) (by decide) ?_ ?_
  · intro hc3
    change (1000 : Nat) ≤ pw_g h 30 1 at hc3
    exfalso; omega
  · intro hc4
    change ¬ ((1000 : Nat) ≤ pw_g h 30 1) at hc4
    refine pw_ld E (pc' := 13) (st' := [.ref 46]) rfl (fun _ => rfl) ?_
    refine pw_getR (b := 52) I E (c := 30) (k := 0) (pc' := 16) rfl rfl rfl rfl rfl rfl rfl ?_
    refine pw_ld E (pc' := 17) (st' := [.ref 46, .ref 52]) rfl (fun _ => rfl) ?_
    refine pw_getI2 I E (c := 30) (k := 1) (pc' := 20) rfl rfl rfl rfl rfl rfl (fun hf5a hf5b => ?_)
    refine pw_ld E (pc' := 21) (st' := [pw_i wd, pw_i (pw_g h 30 1), .ref 52]) rfl (fun _ => rfl) ?_
    refine pw_ast0 I E (c := 36) (pc' := 22) rfl rfl rfl (by decide) rfl (by decide) (by omega) (by omega) rfl (by omega) (by omega) (by omega) (by omega) rfl ?_
    intro h6I h6E
    generalize h6w : pw_w h 36 ((pw_g h 30 1).toNat) (pw_i wd) = h6 at h6I h6E ⊢
    have h6F := E0.tr (h6E.wk (W' := [30, 33, 36]) (by first | rfl | simp))
    refine pw_ld E (pc' := 23) (st' := [.ref 46]) rfl (fun _ => rfl) ?_
    refine pw_ld E (pc' := 24) (st' := [.ref 46, .ref 46]) rfl (fun _ => rfl) ?_
    have he8 : pw_g h6 30 1 = pw_g h 30 1 := by rw [← h6w]; exact pw_g_ne (by omega)
    refine pw_getI2 h6I E (c := 30) (k := 1) (pc' := 27) rfl rfl rfl rfl rfl rfl (fun hf7a hf7b => ?_)
    refine pw_ld E (pc' := 28) (st' := [pw_i 1, pw_i (pw_g h6 30 1), .ref 46]) rfl (fun _ => rfl) ?_
    refine pw_add E (pc' := 29) rfl rfl ?_
    refine pw_putI h6I E (c := 30) (k := 1) (pc' := 32) rfl rfl rfl rfl (by omega) (by omega) (by omega) (by omega) rfl rfl ?_
    intro h9I h9E
    generalize h9w : pw_w h6 30 1 (pw_i ((pw_g h6 30 1) + 1)) = h9 at h9I h9E ⊢
    have h9F := h6F.tr (h9E.wk (W' := [30, 33, 36]) (by first | rfl | simp))
    refine pw_ld E (pc' := 33) (st' := [.ref 46]) rfl (fun _ => rfl) ?_
    refine pw_getR (b := 49) h9I E (c := 30) (k := 4) (pc' := 36) rfl rfl rfl rfl rfl rfl rfl ?_
    refine pw_ld E (pc' := 37) (st' := [pw_i li, .ref 49]) rfl (fun _ => rfl) ?_
    refine pw_ld E (pc' := 38) (st' := [.ref 46, pw_i li, .ref 49]) rfl (fun _ => rfl) ?_
    have he11 : pw_g h9 30 1 = (pw_g h6 30 1) + 1 := by rw [← h9w]; exact pw_g_eq (c := 30) (k := 1) h6I rfl rfl (by omega) (by omega)
    refine pw_getI2 h9I E (c := 30) (k := 1) (pc' := 41) rfl rfl rfl rfl rfl rfl (fun hf10a hf10b => ?_)
    refine pw_ast0 h9I E (c := 33) (pc' := 42) rfl rfl rfl (by decide) rfl (by decide) (by omega) (by omega) rfl (by omega) (by omega) (by omega) (by omega) rfl ?_
    intro h12I h12E
    generalize h12w : pw_w h9 33 (li.toNat) (pw_i (pw_g h9 30 1)) = h12 at h12I h12E ⊢
    have h12F := h9F.tr (h12E.wk (W' := [30, 33, 36]) (by first | rfl | simp))
    refine pw_vret E rfl ?_
    have q1 : pw_g h6 30 1 = pw_g h 30 1 := by rw [← h6w]; exact pw_g_ne (by omega)
    have q2 : pw_g h9 30 1 = pw_g h6 30 1 + 1 := by rw [← h9w]; exact pw_g_eq (c := 30) (k := 1) h6I rfl rfl (by omega) (by omega)
    have q3 : pw_g h12 30 1 = pw_g h9 30 1 := by rw [← h12w]; exact pw_g_ne (by omega)
    have q4 : pw_g h6 36 (pw_g h 30 1).toNat = wd := by rw [← h6w]; exact pw_g_eqA I rfl (by omega) (by omega) (by omega)
    have q5 : pw_g h12 33 li.toNat = pw_g h9 30 1 := by rw [← h12w]; exact pw_g_eqA h9I rfl (by omega) (by omega) (by omega)
    exact ⟨h12I, h12F, ⟨by omega, by rw [← h12w, pw_g_ne (by omega), ← h9w, pw_g_ne (by omega)]; exact q4, fun j hj => by rw [← h12w, pw_g_ne (by omega), ← h9w, pw_g_ne (by omega), ← h6w]; exact pw_g_ne (fun q => hj q.2.symm), by omega, fun j hj => by rw [← h12w, pw_g_ne (fun q => hj q.2.symm), ← h9w, pw_g_ne (by omega), ← h6w]; exact pw_g_ne (by omega)⟩, rfl⟩
set_option maxHeartbeats 4000000 in
theorem cm_48_x26 {X : List (Nat × List Value)} {d : Nat} {h : pm_H} (hd : 1 ≤ d) (I : pw_I h) (x : Int) (hx1 : 1 ≤ x) (hx2 : x ≤ 9) (hp0 : pw_g h 26 4 ≤ 39) : pw X d h 48 0 [some (.ref 42), some (pw_i x)] [] (fun h' v => pw_I h' ∧ pw_E [26, 27] h h' ∧ (px_PU 26 h h' x) ∧ (v = .inl none)) := by
  have E : pm_ent 48 = some (2, 2, 5, 4, pmc_48) := rfl
  have E0 : pw_E [26, 27] h h := pw_E.rf _ _
  refine pw_ld E (pc' := 1) (st' := [.ref 42]) rfl (fun _ => rfl) ?_
  refine pw_getI2 I E (c := 26) (k := 4) (pc' := 4) rfl rfl rfl rfl rfl rfl (fun hf1a hf1b => ?_)
  refine pw_bip E (pc' := 6) rfl rfl (by decide) ?_
  refine pw_if2 E (pc' := 29) rfl (by decide) (by omega) (by omega) (by decide) (by decide) ?_ ?_
  · intro hc2
    change (40 : Int) ≤ pw_g h 26 4 at hc2
    exfalso; omega
  · intro hc3
    change ¬ ((40 : Int) ≤ pw_g h 26 4) at hc3
    refine pw_ld E (pc' := 10) (st' := [.ref 42]) rfl (fun _ => rfl) ?_
    refine pw_getR (b := 43) I E (c := 26) (k := 3) (pc' := 13) rfl rfl rfl rfl rfl rfl rfl ?_
    refine pw_ld E (pc' := 14) (st' := [.ref 42, .ref 43]) rfl (fun _ => rfl) ?_
    refine pw_getI2 I E (c := 26) (k := 4) (pc' := 17) rfl rfl rfl rfl rfl rfl (fun hf4a hf4b => ?_)
    refine pw_ld E (pc' := 18) (st' := [pw_i x, pw_i (pw_g h 26 4), .ref 43]) rfl (fun _ => rfl) ?_
    refine pw_ast0 I E (c := 27) (pc' := 19) rfl rfl rfl (by decide) rfl (by decide) (by omega) (by omega) rfl (by omega) (by omega) (by omega) (by omega) rfl ?_
    intro h5I h5E
    generalize h5w : pw_w h 27 ((pw_g h 26 4).toNat) (pw_i x) = h5 at h5I h5E ⊢
    have h5F := E0.tr (h5E.wk (W' := [26, 27]) (by first | rfl | simp))
    refine pw_ld E (pc' := 20) (st' := [.ref 42]) rfl (fun _ => rfl) ?_
    refine pw_ld E (pc' := 21) (st' := [.ref 42, .ref 42]) rfl (fun _ => rfl) ?_
    have he7 : pw_g h5 26 4 = pw_g h 26 4 := by rw [← h5w]; exact pw_g_ne (by omega)
    refine pw_getI2 h5I E (c := 26) (k := 4) (pc' := 24) rfl rfl rfl rfl rfl rfl (fun hf6a hf6b => ?_)
    refine pw_ld E (pc' := 25) (st' := [pw_i 1, pw_i (pw_g h5 26 4), .ref 42]) rfl (fun _ => rfl) ?_
    refine pw_add E (pc' := 26) rfl rfl ?_
    refine pw_putI h5I E (c := 26) (k := 4) (pc' := 29) rfl rfl rfl rfl (by omega) (by omega) (by omega) (by omega) rfl rfl ?_
    intro h8I h8E
    generalize h8w : pw_w h5 26 4 (pw_i ((pw_g h5 26 4) + 1)) = h8 at h8I h8E ⊢
    have h8F := h5F.tr (h8E.wk (W' := [26, 27]) (by first | rfl | simp))
    refine pw_vret E rfl ?_
    have q1 : pw_g h5 26 4 = pw_g h 26 4 := by rw [← h5w]; exact pw_g_ne (by omega)
    have q2 : pw_g h8 26 4 = pw_g h5 26 4 + 1 := by rw [← h8w]; exact pw_g_eq (c := 26) (k := 4) h5I rfl rfl (by omega) (by omega)
    have q4 : pw_g h5 27 (pw_g h 26 4).toNat = x := by rw [← h5w]; exact pw_g_eqA I rfl (by omega) (by omega) (by omega)
    exact ⟨h8I, h8F, ⟨by omega, by rw [← h8w, pw_g_ne (by omega)]; exact q4, fun j hj => by rw [← h8w, pw_g_ne (by omega), ← h5w]; exact pw_g_ne (fun q => hj q.2.symm), fun k hk => by rw [← h8w, pw_g_ne (fun q => hk q.2.symm), ← h5w]; exact pw_g_ne (by omega)⟩, rfl⟩
set_option maxHeartbeats 4000000 in
theorem cm_53_x26 {X : List (Nat × List Value)} {d : Nat} {h : pm_H} (hd : 1 ≤ d) (I : pw_I h) (hp0 : pw_Xr X) : pw X d h 53 0 [some (.ref 42)] [] (fun h' v => h = h' ∧ ∃ a : Int, v = .inl (some (pw_i a)) ∧ 0 ≤ a ∧ a ≤ 4 ∧ (a = pt_tr (px_S 26 h))) := by
  have E : pm_ent 53 = some (1, 1, 5, 0, pmc_53) := rfl
  refine pw_ld E (pc' := 1) (st' := [.ref 42]) rfl (fun _ => rfl) ?_
  refine pw_getI2 I E (c := 26) (k := 4) (pc' := 4) rfl rfl rfl rfl rfl rfl (fun hf1a hf1b => ?_)
  refine pw_if E (pc' := 25) rfl (by decide) (by omega) (by omega) ?_ ?_
  · intro hc2
    change pw_g h 26 4 ≤ (0 : Int) at hc2
    refine pw_ld E (pc' := 26) (st' := [pw_i 0]) rfl (fun _ => rfl) ?_
    refine pw_iret E rfl ?_
    exact ⟨rfl, ⟨_, rfl, by omega, by omega, by rw [px_S0 (by omega)]; rfl⟩⟩
  · intro hc3
    change ¬ (pw_g h 26 4 ≤ (0 : Int)) at hc3
    refine pw_ld E (pc' := 10) (st' := [.ref 3]) rfl (fun _ => rfl) ?_
    refine pw_ld E (pc' := 11) (st' := [.ref 42, .ref 3]) rfl (fun _ => rfl) ?_
    refine pw_getR (b := 43) I E (c := 26) (k := 3) (pc' := 14) rfl rfl rfl rfl rfl rfl rfl ?_
    refine pw_ld E (pc' := 15) (st' := [.ref 42, .ref 43, .ref 3]) rfl (fun _ => rfl) ?_
    refine pw_getI2 I E (c := 26) (k := 4) (pc' := 18) rfl rfl rfl rfl rfl rfl (fun hf4a hf4b => ?_)
    refine pw_ld E (pc' := 19) (st' := [pw_i 1, pw_i (pw_g h 26 4), .ref 43, .ref 3]) rfl (fun _ => rfl) ?_
    refine pw_sub E (pc' := 20) rfl rfl ?_
    refine pw_ald2 I E (c := 27) (pc' := 21) rfl rfl rfl (by decide) rfl (by decide) (by omega) (by omega) rfl (fun hf5a hf5b => ?_)
    refine pw_xaldR E (pc' := 22) rfl hp0 (by omega) (by omega) rfl ?_
    have hrk6 := pw_rk_le (pw_g h 27 (((pw_g h 26 4) - 1).toNat))
    refine pw_goto E (pc' := 26) rfl (by decide) ?_
    refine pw_iret E rfl ?_
    have e1 := px_rkE (x := pw_g h 27 (pw_g h 26 4 - 1).toNat) (by omega) (by omega)
    have e2 := pt_rkB (pw_g h 27 (pw_g h 26 4 - 1).toNat)
    exact ⟨rfl, ⟨_, rfl, by omega, by omega, by rw [px_S1 (c := 26) (by omega), e1]; rfl⟩⟩
set_option maxHeartbeats 4000000 in
theorem cm_52_x26 {X : List (Nat × List Value)} {d : Nat} {h : pm_H} (hd : 2 ≤ d) (I : pw_I h) (rk : Int) (hrk1 : 1 ≤ rk) (hrk2 : rk ≤ 4) (st : Int) (hp0 : pw_Xr X) (hp1 : pw_g h 30 1 + pw_g h 26 4 ≤ 1000) (hp2 : 0 ≤ st) (hp3 : st ≤ pw_g h 30 1) (hp4 : pw_g h 33 (pw_g h 26 8).toNat = pw_g h 30 1) : pw X d h 52 0 [some (.ref 42), some (pw_i rk), some (.ref 46)] [] (fun h' v => pw_I h' ∧ pw_E [26, 30, 33, 36] h h' ∧ (px_RL 26 st rk h h') ∧ (v = .inl none)) := by
  have E : pm_ent 52 = some (3, 3, 5, 4, pmc_52) := rfl
  have E0 : pw_E [26, 30, 33, 36] h h := pw_E.rf _ _
  have L0 : ∀ (n0 : Nat)  (gh0 : pm_H), pw_I gh0 → pw_E [26, 30, 33, 36] h gh0 → pt_rl rk (px_S 26 gh0) (px_C gh0 st) = pt_rl rk (px_S 26 h) (px_C h st) → pw_g gh0 30 1 + pw_g gh0 26 4 = pw_g h 30 1 + pw_g h 26 4 → px_B 26 h gh0 → ((∀ k : Nat, k ≠ 4 → pw_g gh0 26 k = pw_g h 26 k)) → (pw_g gh0 26 4).toNat = n0 → pw X d gh0 52 0 [some (.ref 42), some (pw_i rk), some (.ref 46)] [] (fun h' v => pw_I h' ∧ pw_E [26, 30, 33, 36] h h' ∧ (px_RL 26 st rk h h') ∧ (v = .inl none)) := by
    intro n0
    induction n0 using Nat.strongRecOn with
    | ind n0 ih0 =>
      intro  gh0 I0 E0 hx0_0 hx0_1 hx0_2 hx0_3 hm0
      refine pw_ld E (pc' := 1) (st' := [.ref 42]) rfl (fun _ => rfl) ?_
      refine pw_getI2 I0 E (c := 26) (k := 4) (pc' := 4) rfl rfl rfl rfl rfl rfl (fun hf1a hf1b => ?_)
      have e80 := hx0_3 8 (by decide)
      have hr4 := pw_gI (c := 26) (k := 4) I0 rfl rfl
      have hr1 := pw_gI (c := 30) (k := 1) I0 rfl rfl
      have hB1 := hx0_2.1
      have hXr := hp0
      refine pw_if E (pc' := 48) rfl (by decide) (by omega) (by omega) ?_ ?_
      · intro hc2
        change pw_g gh0 26 4 ≤ (0 : Int) at hc2
        refine pw_vret E rfl ?_
        have hz := px_loopR (c := 26) (rk := rk) (h := gh0) (st := st) (Or.inl (by omega))
        exact ⟨I0, E0, ⟨hx0_0.symm.trans hz, by omega, hx0_2, hx0_3⟩, rfl⟩
      · intro hc3
        change ¬ (pw_g gh0 26 4 ≤ (0 : Int)) at hc3
        refine pw_ld E (pc' := 8) (st' := [.ref 42]) rfl (fun _ => rfl) ?_
        obtain ⟨f4l, f4h, -⟩ := pw_obj (c := 26) I0 rfl
        refine pw_call (m' := 53) (As := [.ref 42]) (rest := []) (ls'' := [some (.ref 42)]) (Nat.le_trans (by decide) hd) E rfl (fun _ => pw_iV rfl rfl rfl rfl (pw_cellI f4h rfl)) (rfl : pm_ent 53 = some (1, 1, 5, 0, pmc_53)) rfl rfl (cm_53_x26 (pw_dp hd (by decide)) I0 hXr) ?_
        rintro u6 v5 ⟨rfl, x7, rfl, hx7a, hx7b, hx7r⟩
        refine ⟨_, rfl, ?_⟩
        show pw X d gh0 52 11 [some (.ref 42), some (pw_i rk), some (.ref 46)] [pw_i x7] _
        change x7 = pt_tr (px_S 26 gh0) at hx7r
        refine pw_ld E (pc' := 12) (st' := [pw_i rk, pw_i x7]) rfl (fun _ => rfl) ?_
        refine pw_if2 E (pc' := 48) rfl (by decide) (by omega) (by omega) (by omega) (by omega) ?_ ?_
        · intro hc8
          change x7 < rk at hc8
          refine pw_vret E rfl ?_
          have hz := px_loopR (c := 26) (rk := rk) (h := gh0) (st := st) (Or.inr (by omega))
          exact ⟨I0, E0, ⟨hx0_0.symm.trans hz, by omega, hx0_2, hx0_3⟩, rfl⟩
        · intro hc9
          change ¬ (x7 < rk) at hc9
          refine pw_ld E (pc' := 16) (st' := [.ref 46]) rfl (fun _ => rfl) ?_
          refine pw_ld E (pc' := 17) (st' := [.ref 42, .ref 46]) rfl (fun _ => rfl) ?_
          refine pw_getI2 I0 E (c := 26) (k := 8) (pc' := 20) rfl rfl rfl rfl rfl rfl (fun hf10a hf10b => ?_)
          refine pw_ld E (pc' := 21) (st' := [.ref 42, pw_i (pw_g gh0 26 8), .ref 46]) rfl (fun _ => rfl) ?_
          refine pw_getR (b := 43) I0 E (c := 26) (k := 3) (pc' := 24) rfl rfl rfl rfl rfl rfl rfl ?_
          refine pw_ld E (pc' := 25) (st' := [.ref 42, .ref 43, pw_i (pw_g gh0 26 8), .ref 46]) rfl (fun _ => rfl) ?_
          refine pw_getI2 I0 E (c := 26) (k := 4) (pc' := 28) rfl rfl rfl rfl rfl rfl (fun hf11a hf11b => ?_)
          refine pw_ld E (pc' := 29) (st' := [pw_i 1, pw_i (pw_g gh0 26 4), .ref 43, pw_i (pw_g gh0 26 8), .ref 46]) rfl (fun _ => rfl) ?_
          refine pw_sub E (pc' := 30) rfl rfl ?_
          refine pw_ald2 I0 E (c := 27) (pc' := 31) rfl rfl rfl (by decide) rfl (by decide) (by omega) (by omega) rfl (fun hf12a hf12b => ?_)
          refine pw_ineg E (pc' := 32) rfl rfl ?_
          obtain ⟨f13l, f13h, -⟩ := pw_obj (c := 30) I0 rfl
          refine pw_call (m' := 71) (As := [.ref 46, pw_i (pw_g gh0 26 8), pw_i (-(pw_g gh0 27 (((pw_g gh0 26 4) - 1).toNat)))]) (rest := []) (ls'' := [some (.ref 46), some (pw_i (pw_g gh0 26 8)), some (pw_i (-(pw_g gh0 27 (((pw_g gh0 26 4) - 1).toNat))))]) (Nat.le_trans (by decide) hd) E rfl (fun _ => pw_iV rfl rfl rfl rfl (pw_cellI f13h rfl)) (rfl : pm_ent 71 = some (3, 3, 7, 4, pmc_71)) rfl rfl (cm_71_x (pw_dp hd (by decide)) I0 (pw_g gh0 26 8) (by omega) (by omega) (-(pw_g gh0 27 (((pw_g gh0 26 4) - 1).toNat))) (by omega) (by omega) (by omega)) ?_
          rintro h14 v15 ⟨h14I, h14E, hqem, rfl⟩
          refine ⟨_, rfl, ?_⟩
          have h14F := E0.tr (h14E.wk (W' := [26, 30, 33, 36]) (by first | rfl | simp))
          show pw X d h14 52 35 [some (.ref 42), some (pw_i rk), some (.ref 46)] [] _
          refine pw_ld E (pc' := 36) (st' := [.ref 42]) rfl (fun _ => rfl) ?_
          refine pw_ld E (pc' := 37) (st' := [.ref 42, .ref 42]) rfl (fun _ => rfl) ?_
          have he17 : pw_g h14 26 4 = pw_g gh0 26 4 := pw_Eg (c := 26) I0 h14E rfl rfl 4
          refine pw_getI2 h14I E (c := 26) (k := 4) (pc' := 40) rfl rfl rfl rfl rfl rfl (fun hf16a hf16b => ?_)
          refine pw_ld E (pc' := 41) (st' := [pw_i 1, pw_i (pw_g h14 26 4), .ref 42]) rfl (fun _ => rfl) ?_
          refine pw_sub E (pc' := 42) rfl rfl ?_
          refine pw_putI h14I E (c := 26) (k := 4) (pc' := 45) rfl rfl rfl rfl (by omega) (by omega) (by omega) (by omega) rfl rfl ?_
          intro h18I h18E
          generalize h18w : pw_w h14 26 4 (pw_i ((pw_g h14 26 4) - 1)) = h18 at h18I h18E ⊢
          have h18F := h14F.tr (h18E.wk (W' := [26, 30, 33, 36]) (by first | rfl | simp))
          have f4 : pw_g h14 26 4 = pw_g gh0 26 4 := pw_Eg (c := 26) I0 h14E rfl rfl 4
          have f5 : pw_g h18 26 4 = pw_g h14 26 4 - 1 := by rw [← h18w]; exact pw_g_eq (c := 26) (k := 4) h14I rfl rfl (by omega) (by omega)
          have f30 : pw_g h18 30 1 = pw_g h14 30 1 := by rw [← h18w]; exact pw_g_ne (by omega)
          have fK : ∀ k : Nat, k ≠ 4 → pw_g h18 26 k = pw_g h 26 k := fun k hk => by rw [← h18w, pw_g_ne (fun q => hk q.2.symm), pw_Eg (c := 26) I0 h14E rfl rfl k]; exact hx0_3 k hk
          have fw : ∀ j : Nat, pw_g h18 27 j = pw_g gh0 27 j := fun j => by rw [← h18w, pw_g_ne (by omega)]; exact pw_Eg (c := 27) I0 h14E rfl rfl j
          have f36 : ∀ j : Nat, pw_g h18 36 j = pw_g h14 36 j := fun j => by rw [← h18w]; exact pw_g_ne (by omega)
          have f33 : ∀ j : Nat, pw_g h18 33 j = pw_g h14 33 j := fun j => by rw [← h18w]; exact pw_g_ne (by omega)
          have hS := px_S1 (c := 26) (h := gh0) (by omega)
          have hS2 : px_S 26 h18 = px_st (pw_g gh0 27) (pw_g gh0 26 4 - 1).toNat := px_S.pop (c := 26) (h := gh0) (by omega) (by omega) fw hS
          have hC2 : px_C h18 st = -(pw_g gh0 27 (pw_g gh0 26 4 - 1).toNat) :: px_C gh0 st := (px_C.eq f30 f36).trans (px_C.em hqem (by omega) (by omega))
          have hPR : pt_rl rk (px_S 26 h18) (px_C h18 st) = pt_rl rk (px_S 26 h) (px_C h st) := by rw [← hx0_0, hS, hS2, hC2]; exact (pt_rl_ge (by rw [hS] at hx7r; have z : x7 = pt_rk (pw_g gh0 27 (pw_g gh0 26 4 - 1).toNat) := hx7r; omega)).symm
          have em1 := hqem.1
          have hBB : px_B 26 h h18 := (px_B.em (c := 26) hx0_2 e80 hqem).eq f30 f36 f33
          refine pw_goto E (pc' := 0) rfl (by decide) ?_
          exact ih0 _ (by omega)  h18 h18I h18F  hPR (by omega) hBB fK rfl
  exact L0 _  h I E0  rfl (by omega) (px_B.rf hp4) (fun _ _ => rfl) rfl
set_option maxHeartbeats 4000000 in
theorem cm_49_x26 {X : List (Nat × List Value)} {d : Nat} {h : pm_H} (hd : 2 ≤ d) (I : pw_I h) (st : Int) (hp0 : pw_g h 30 1 + pw_g h 26 4 ≤ 1000) (hp1 : 0 ≤ st) (hp2 : st ≤ pw_g h 30 1) (hp3 : pw_g h 33 (pw_g h 26 8).toNat = pw_g h 30 1) (hp4 : pw_g h 26 5 = px_dc (px_S 26 h)) (hp5 : pw_g h 26 5 ≤ 5) : pw X d h 49 0 [some (.ref 42), some (.ref 46)] [] (fun h' v => pw_I h' ∧ pw_E [26, 30, 33, 36] h h' ∧ (px_EP 26 st h h') ∧ (v = .inl none)) := by
  have E : pm_ent 49 = some (2, 2, 5, 4, pmc_49) := rfl
  have E0 : pw_E [26, 30, 33, 36] h h := pw_E.rf _ _
  have L0 : ∀ (n0 : Nat)  (gh0 : pm_H), pw_I gh0 → pw_E [26, 30, 33, 36] h gh0 → pt_ep (px_S 26 gh0) (pw_g gh0 26 5) (px_C gh0 st) = pt_ep (px_S 26 h) (pw_g h 26 5) (px_C h st) → pw_g gh0 30 1 + pw_g gh0 26 4 = pw_g h 30 1 + pw_g h 26 4 → px_B 26 h gh0 → ((∀ k : Nat, k ≠ 4 → k ≠ 5 → pw_g gh0 26 k = pw_g h 26 k)) → pw_g gh0 26 5 = px_dc (px_S 26 gh0) → pw_g gh0 26 5 ≤ 5 → (pw_g gh0 26 4).toNat = n0 → pw X d gh0 49 0 [some (.ref 42), some (.ref 46)] [] (fun h' v => pw_I h' ∧ pw_E [26, 30, 33, 36] h h' ∧ (px_EP 26 st h h') ∧ (v = .inl none)) := by
    intro n0
    induction n0 using Nat.strongRecOn with
    | ind n0 ih0 =>
      intro  gh0 I0 E0 hx0_0 hx0_1 hx0_2 hx0_3 hx0_4 hx0_5 hm0
      refine pw_ld E (pc' := 1) (st' := [.ref 42]) rfl (fun _ => rfl) ?_
      refine pw_getI2 I0 E (c := 26) (k := 4) (pc' := 4) rfl rfl rfl rfl rfl rfl (fun hf1a hf1b => ?_)
      have e80 := hx0_3 8 (by decide) (by decide)
      have hr4 := pw_gI (c := 26) (k := 4) I0 rfl rfl
      have hr1 := pw_gI (c := 30) (k := 1) I0 rfl rfl
      have hB1 := hx0_2.1
      have hd0 := px_dcB (px_S 26 gh0)
      refine pw_if E (pc' := 56) rfl (by decide) (by omega) (by omega) ?_ ?_
      · intro hc2
        change pw_g gh0 26 4 ≤ (0 : Int) at hc2
        refine pw_ld E (pc' := 57) (st' := [.ref 42]) rfl (fun _ => rfl) ?_
        refine pw_ld E (pc' := 58) (st' := [pw_i 3, .ref 42]) rfl (fun _ => rfl) ?_
        refine pw_putI I0 E (c := 26) (k := 7) (pc' := 61) rfl rfl rfl rfl (by omega) (by omega) (by omega) (by omega) rfl rfl ?_
        intro h3I h3E
        generalize h3w : pw_w gh0 26 7 (pw_i 3) = h3 at h3I h3E ⊢
        have h3F := E0.tr (h3E.wk (W' := [26, 30, 33, 36]) (by first | rfl | simp))
        have z7 : pw_g h3 26 7 = 3 := by rw [← h3w]; exact pw_g_eq (c := 26) (k := 7) I0 rfl rfl (by omega) (by omega)
        have zk : ∀ k : Nat, k ≠ 7 → pw_g h3 26 k = pw_g gh0 26 k := fun k hk => by rw [← h3w]; exact pw_g_ne (fun q => hk q.2.symm)
        have z4 := zk 4 (by decide)
        have z5 := zk 5 (by decide)
        have z30 : pw_g h3 30 1 = pw_g gh0 30 1 := by rw [← h3w]; exact pw_g_ne (by omega)
        have zS : px_S 26 h3 = px_S 26 gh0 := px_S.eq (c := 26) z4 (fun j => by rw [← h3w]; exact pw_g_ne (by omega))
        have zC : px_C h3 st = px_C gh0 st := px_C.eq z30 (fun j => by rw [← h3w]; exact pw_g_ne (by omega))
        have zB : px_B 26 h h3 := hx0_2.eq z30 (fun j => by rw [← h3w]; exact pw_g_ne (by omega)) (fun j => by rw [← h3w]; exact pw_g_ne (by omega))
        have hz : pt_ep (px_S 26 gh0) (pw_g gh0 26 5) (px_C gh0 st) = (px_S 26 gh0, pw_g gh0 26 5, px_C gh0 st) := by rw [px_S0 (by omega)]; rfl
        refine pw_vret E rfl ?_
        exact ⟨h3I, h3F, ⟨by rw [zS, zC, z5]; exact hx0_0.symm.trans hz, by omega, zB, z7, fun k k4 k5 k7 => (zk k k7).trans (hx0_3 k k4 k5)⟩, rfl⟩
      · intro hc4
        change ¬ (pw_g gh0 26 4 ≤ (0 : Int)) at hc4
        refine pw_ld E (pc' := 8) (st' := [.ref 42]) rfl (fun _ => rfl) ?_
        refine pw_getR (b := 43) I0 E (c := 26) (k := 3) (pc' := 11) rfl rfl rfl rfl rfl rfl rfl ?_
        refine pw_ld E (pc' := 12) (st' := [.ref 42, .ref 43]) rfl (fun _ => rfl) ?_
        refine pw_getI2 I0 E (c := 26) (k := 4) (pc' := 15) rfl rfl rfl rfl rfl rfl (fun hf5a hf5b => ?_)
        refine pw_ld E (pc' := 16) (st' := [pw_i 1, pw_i (pw_g gh0 26 4), .ref 43]) rfl (fun _ => rfl) ?_
        refine pw_sub E (pc' := 17) rfl rfl ?_
        refine pw_ald2 I0 E (c := 27) (pc' := 18) rfl rfl rfl (by decide) rfl (by decide) (by omega) (by omega) rfl (fun hf6a hf6b => ?_)
        refine pw_bip E (pc' := 20) rfl rfl (by decide) ?_
        refine pw_if2 E (pc' := 56) rfl (by decide) (by omega) (by omega) (by decide) (by decide) ?_ ?_
        · intro hc7
          change pw_g gh0 27 (((pw_g gh0 26 4) - 1).toNat) ≠ (8 : Int) at hc7
          refine pw_ld E (pc' := 57) (st' := [.ref 42]) rfl (fun _ => rfl) ?_
          refine pw_ld E (pc' := 58) (st' := [pw_i 3, .ref 42]) rfl (fun _ => rfl) ?_
          refine pw_putI I0 E (c := 26) (k := 7) (pc' := 61) rfl rfl rfl rfl (by omega) (by omega) (by omega) (by omega) rfl rfl ?_
          intro h8I h8E
          generalize h8w : pw_w gh0 26 7 (pw_i 3) = h8 at h8I h8E ⊢
          have h8F := E0.tr (h8E.wk (W' := [26, 30, 33, 36]) (by first | rfl | simp))
          have z7 : pw_g h8 26 7 = 3 := by rw [← h8w]; exact pw_g_eq (c := 26) (k := 7) I0 rfl rfl (by omega) (by omega)
          have zk : ∀ k : Nat, k ≠ 7 → pw_g h8 26 k = pw_g gh0 26 k := fun k hk => by rw [← h8w]; exact pw_g_ne (fun q => hk q.2.symm)
          have z4 := zk 4 (by decide)
          have z5 := zk 5 (by decide)
          have z30 : pw_g h8 30 1 = pw_g gh0 30 1 := by rw [← h8w]; exact pw_g_ne (by omega)
          have zS : px_S 26 h8 = px_S 26 gh0 := px_S.eq (c := 26) z4 (fun j => by rw [← h8w]; exact pw_g_ne (by omega))
          have zC : px_C h8 st = px_C gh0 st := px_C.eq z30 (fun j => by rw [← h8w]; exact pw_g_ne (by omega))
          have zB : px_B 26 h h8 := hx0_2.eq z30 (fun j => by rw [← h8w]; exact pw_g_ne (by omega)) (fun j => by rw [← h8w]; exact pw_g_ne (by omega))
          have hz : pt_ep (px_S 26 gh0) (pw_g gh0 26 5) (px_C gh0 st) = (px_S 26 gh0, pw_g gh0 26 5, px_C gh0 st) := by rw [px_S1 (c := 26) (by omega)]; exact if_neg (by omega)
          refine pw_vret E rfl ?_
          exact ⟨h8I, h8F, ⟨by rw [zS, zC, z5]; exact hx0_0.symm.trans hz, by omega, zB, z7, fun k k4 k5 k7 => (zk k k7).trans (hx0_3 k k4 k5)⟩, rfl⟩
        · intro hc9
          change ¬ (pw_g gh0 27 (((pw_g gh0 26 4) - 1).toNat) ≠ (8 : Int)) at hc9
          refine pw_ld E (pc' := 24) (st' := [.ref 46]) rfl (fun _ => rfl) ?_
          refine pw_ld E (pc' := 25) (st' := [.ref 42, .ref 46]) rfl (fun _ => rfl) ?_
          refine pw_getI2 I0 E (c := 26) (k := 8) (pc' := 28) rfl rfl rfl rfl rfl rfl (fun hf10a hf10b => ?_)
          refine pw_bip E (pc' := 30) rfl rfl (by decide) ?_
          have hS := px_S1 (c := 26) (h := gh0) (by omega)
          have hS : px_S 26 gh0 = 8 :: px_st (pw_g gh0 27) (pw_g gh0 26 4 - 1).toNat := by rw [hS, show pw_g gh0 27 (pw_g gh0 26 4 - 1).toNat = 8 by omega]
          have hdc := hx0_4
          rw [hS] at hdc
          have hdc2 : pw_g gh0 26 5 = px_dc (px_st (pw_g gh0 27) (pw_g gh0 26 4 - 1).toNat) + 1 := hdc
          have hd1 := px_dcB (px_st (pw_g gh0 27) (pw_g gh0 26 4 - 1).toNat)
          obtain ⟨f11l, f11h, -⟩ := pw_obj (c := 30) I0 rfl
          refine pw_call (m' := 71) (As := [.ref 46, pw_i (pw_g gh0 26 8), pw_i ((-8))]) (rest := []) (ls'' := [some (.ref 46), some (pw_i (pw_g gh0 26 8)), some (pw_i ((-8)))]) (Nat.le_trans (by decide) hd) E rfl (fun _ => pw_iV rfl rfl rfl rfl (pw_cellI f11h rfl)) (rfl : pm_ent 71 = some (3, 3, 7, 4, pmc_71)) rfl rfl (cm_71_x (pw_dp hd (by decide)) I0 (pw_g gh0 26 8) (by omega) (by omega) ((-8)) (by omega) (by omega) (by omega)) ?_
          rintro h12 v13 ⟨h12I, h12E, hqem, rfl⟩
          refine ⟨_, rfl, ?_⟩
          have h12F := E0.tr (h12E.wk (W' := [26, 30, 33, 36]) (by first | rfl | simp))
          show pw X d h12 49 33 [some (.ref 42), some (.ref 46)] [] _
          refine pw_ld E (pc' := 34) (st' := [.ref 42]) rfl (fun _ => rfl) ?_
          refine pw_ld E (pc' := 35) (st' := [.ref 42, .ref 42]) rfl (fun _ => rfl) ?_
          have he15 : pw_g h12 26 4 = pw_g gh0 26 4 := pw_Eg (c := 26) I0 h12E rfl rfl 4
          refine pw_getI2 h12I E (c := 26) (k := 4) (pc' := 38) rfl rfl rfl rfl rfl rfl (fun hf14a hf14b => ?_)
          refine pw_ld E (pc' := 39) (st' := [pw_i 1, pw_i (pw_g h12 26 4), .ref 42]) rfl (fun _ => rfl) ?_
          refine pw_sub E (pc' := 40) rfl rfl ?_
          refine pw_putI h12I E (c := 26) (k := 4) (pc' := 43) rfl rfl rfl rfl (by omega) (by omega) (by omega) (by omega) rfl rfl ?_
          intro h16I h16E
          generalize h16w : pw_w h12 26 4 (pw_i ((pw_g h12 26 4) - 1)) = h16 at h16I h16E ⊢
          have h16F := h12F.tr (h16E.wk (W' := [26, 30, 33, 36]) (by first | rfl | simp))
          have f4 : pw_g h12 26 4 = pw_g gh0 26 4 := pw_Eg (c := 26) I0 h12E rfl rfl 4
          have d5a : pw_g h12 26 5 = pw_g gh0 26 5 := pw_Eg (c := 26) I0 h12E rfl rfl 5
          have d5b : pw_g h16 26 5 = pw_g h12 26 5 := by rw [← h16w]; exact pw_g_ne (by omega)
          have f5 : pw_g h16 26 4 = pw_g h12 26 4 - 1 := by rw [← h16w]; exact pw_g_eq (c := 26) (k := 4) h12I rfl rfl (by omega) (by omega)
          refine pw_ld E (pc' := 44) (st' := [.ref 42]) rfl (fun _ => rfl) ?_
          refine pw_ld E (pc' := 45) (st' := [.ref 42, .ref 42]) rfl (fun _ => rfl) ?_
          refine pw_getI2 h16I E (c := 26) (k := 5) (pc' := 48) rfl rfl rfl rfl rfl rfl (fun hf17a hf17b => ?_)
          refine pw_ld E (pc' := 49) (st' := [pw_i 1, pw_i (pw_g h16 26 5), .ref 42]) rfl (fun _ => rfl) ?_
          refine pw_sub E (pc' := 50) rfl rfl ?_
          refine pw_putI h16I E (c := 26) (k := 5) (pc' := 53) rfl rfl rfl rfl (by omega) (by omega) (by omega) (by omega) rfl rfl ?_
          intro h18I h18E
          generalize h18w : pw_w h16 26 5 (pw_i ((pw_g h16 26 5) - 1)) = h18 at h18I h18E ⊢
          have h18F := h16F.tr (h18E.wk (W' := [26, 30, 33, 36]) (by first | rfl | simp))
          have d5c : pw_g h18 26 5 = pw_g h16 26 5 - 1 := by rw [← h18w]; exact pw_g_eq (c := 26) (k := 5) h16I rfl rfl (by omega) (by omega)
          have f6 : pw_g h18 26 4 = pw_g h16 26 4 := by rw [← h18w]; exact pw_g_ne (by omega)
          have f30 : pw_g h18 30 1 = pw_g h12 30 1 := by rw [← h18w, pw_g_ne (by omega), ← h16w]; exact pw_g_ne (by omega)
          have fK : ∀ k : Nat, k ≠ 4 → k ≠ 5 → pw_g h18 26 k = pw_g h 26 k := fun k hk hk5 => by rw [← h18w, pw_g_ne (fun q => hk5 q.2.symm), ← h16w, pw_g_ne (fun q => hk q.2.symm), pw_Eg (c := 26) I0 h12E rfl rfl k]; exact hx0_3 k hk hk5
          have fw : ∀ j : Nat, pw_g h18 27 j = pw_g gh0 27 j := fun j => by rw [← h18w, pw_g_ne (by omega), ← h16w, pw_g_ne (by omega)]; exact pw_Eg (c := 27) I0 h12E rfl rfl j
          have f36 : ∀ j : Nat, pw_g h18 36 j = pw_g h12 36 j := fun j => by rw [← h18w, pw_g_ne (by omega), ← h16w]; exact pw_g_ne (by omega)
          have f33 : ∀ j : Nat, pw_g h18 33 j = pw_g h12 33 j := fun j => by rw [← h18w, pw_g_ne (by omega), ← h16w]; exact pw_g_ne (by omega)
          have hS2 : px_S 26 h18 = px_st (pw_g gh0 27) (pw_g gh0 26 4 - 1).toNat := px_S.pop (c := 26) (h := gh0) (by omega) (by omega) fw hS
          have hC2 : px_C h18 st = -8 :: px_C gh0 st := (px_C.eq f30 f36).trans (px_C.em hqem (by omega) (by omega))
          have hPR : pt_ep (px_S 26 h18) (pw_g h18 26 5) (px_C h18 st) = pt_ep (px_S 26 h) (pw_g h 26 5) (px_C h st) := by rw [← hx0_0, hS, hS2, hC2, show pw_g h18 26 5 = pw_g gh0 26 5 - 1 by omega]; exact (if_pos rfl : pt_ep (8 :: _) _ _ = _).symm
          have em1 := hqem.1
          have hBB : px_B 26 h h18 := (px_B.em (c := 26) hx0_2 e80 hqem).eq f30 f36 f33
          have hDC : pw_g h18 26 5 = px_dc (px_S 26 h18) := by rw [hS2]; omega
          refine pw_goto E (pc' := 0) rfl (by decide) ?_
          exact ih0 _ (by omega)  h18 h18I h18F  hPR (by omega) hBB fK hDC (by omega) rfl
  exact L0 _  h I E0  rfl (by omega) (px_B.rf hp3) (fun _ _ _ => rfl) hp4 (by omega) rfl
set_option maxHeartbeats 4000000 in
theorem cm_48_x28 {X : List (Nat × List Value)} {d : Nat} {h : pm_H} (hd : 1 ≤ d) (I : pw_I h) (x : Int) (hx1 : 1 ≤ x) (hx2 : x ≤ 9) (hp0 : pw_g h 28 4 ≤ 39) : pw X d h 48 0 [some (.ref 44), some (pw_i x)] [] (fun h' v => pw_I h' ∧ pw_E [28, 29] h h' ∧ (px_PU 28 h h' x) ∧ (v = .inl none)) := by
  have E : pm_ent 48 = some (2, 2, 5, 4, pmc_48) := rfl
  have E0 : pw_E [28, 29] h h := pw_E.rf _ _
  refine pw_ld E (pc' := 1) (st' := [.ref 44]) rfl (fun _ => rfl) ?_
  refine pw_getI2 I E (c := 28) (k := 4) (pc' := 4) rfl rfl rfl rfl rfl rfl (fun hf1a hf1b => ?_)
  refine pw_bip E (pc' := 6) rfl rfl (by decide) ?_
  refine pw_if2 E (pc' := 29) rfl (by decide) (by omega) (by omega) (by decide) (by decide) ?_ ?_
  · intro hc2
    change (40 : Int) ≤ pw_g h 28 4 at hc2
    exfalso; omega
  · intro hc3
    change ¬ ((40 : Int) ≤ pw_g h 28 4) at hc3
    refine pw_ld E (pc' := 10) (st' := [.ref 44]) rfl (fun _ => rfl) ?_
    refine pw_getR (b := 45) I E (c := 28) (k := 3) (pc' := 13) rfl rfl rfl rfl rfl rfl rfl ?_
    refine pw_ld E (pc' := 14) (st' := [.ref 44, .ref 45]) rfl (fun _ => rfl) ?_
    refine pw_getI2 I E (c := 28) (k := 4) (pc' := 17) rfl rfl rfl rfl rfl rfl (fun hf4a hf4b => ?_)
    refine pw_ld E (pc' := 18) (st' := [pw_i x, pw_i (pw_g h 28 4), .ref 45]) rfl (fun _ => rfl) ?_
    refine pw_ast0 I E (c := 29) (pc' := 19) rfl rfl rfl (by decide) rfl (by decide) (by omega) (by omega) rfl (by omega) (by omega) (by omega) (by omega) rfl ?_
    intro h5I h5E
    generalize h5w : pw_w h 29 ((pw_g h 28 4).toNat) (pw_i x) = h5 at h5I h5E ⊢
    have h5F := E0.tr (h5E.wk (W' := [28, 29]) (by first | rfl | simp))
    refine pw_ld E (pc' := 20) (st' := [.ref 44]) rfl (fun _ => rfl) ?_
    refine pw_ld E (pc' := 21) (st' := [.ref 44, .ref 44]) rfl (fun _ => rfl) ?_
    have he7 : pw_g h5 28 4 = pw_g h 28 4 := by rw [← h5w]; exact pw_g_ne (by omega)
    refine pw_getI2 h5I E (c := 28) (k := 4) (pc' := 24) rfl rfl rfl rfl rfl rfl (fun hf6a hf6b => ?_)
    refine pw_ld E (pc' := 25) (st' := [pw_i 1, pw_i (pw_g h5 28 4), .ref 44]) rfl (fun _ => rfl) ?_
    refine pw_add E (pc' := 26) rfl rfl ?_
    refine pw_putI h5I E (c := 28) (k := 4) (pc' := 29) rfl rfl rfl rfl (by omega) (by omega) (by omega) (by omega) rfl rfl ?_
    intro h8I h8E
    generalize h8w : pw_w h5 28 4 (pw_i ((pw_g h5 28 4) + 1)) = h8 at h8I h8E ⊢
    have h8F := h5F.tr (h8E.wk (W' := [28, 29]) (by first | rfl | simp))
    refine pw_vret E rfl ?_
    have q1 : pw_g h5 28 4 = pw_g h 28 4 := by rw [← h5w]; exact pw_g_ne (by omega)
    have q2 : pw_g h8 28 4 = pw_g h5 28 4 + 1 := by rw [← h8w]; exact pw_g_eq (c := 28) (k := 4) h5I rfl rfl (by omega) (by omega)
    have q4 : pw_g h5 29 (pw_g h 28 4).toNat = x := by rw [← h5w]; exact pw_g_eqA I rfl (by omega) (by omega) (by omega)
    exact ⟨h8I, h8F, ⟨by omega, by rw [← h8w, pw_g_ne (by omega)]; exact q4, fun j hj => by rw [← h8w, pw_g_ne (by omega), ← h5w]; exact pw_g_ne (fun q => hj q.2.symm), fun k hk => by rw [← h8w, pw_g_ne (fun q => hk q.2.symm), ← h5w]; exact pw_g_ne (by omega)⟩, rfl⟩
set_option maxHeartbeats 4000000 in
theorem cm_53_x28 {X : List (Nat × List Value)} {d : Nat} {h : pm_H} (hd : 1 ≤ d) (I : pw_I h) (hp0 : pw_Xr X) : pw X d h 53 0 [some (.ref 44)] [] (fun h' v => h = h' ∧ ∃ a : Int, v = .inl (some (pw_i a)) ∧ 0 ≤ a ∧ a ≤ 4 ∧ (a = pt_tr (px_S 28 h))) := by
  have E : pm_ent 53 = some (1, 1, 5, 0, pmc_53) := rfl
  refine pw_ld E (pc' := 1) (st' := [.ref 44]) rfl (fun _ => rfl) ?_
  refine pw_getI2 I E (c := 28) (k := 4) (pc' := 4) rfl rfl rfl rfl rfl rfl (fun hf1a hf1b => ?_)
  refine pw_if E (pc' := 25) rfl (by decide) (by omega) (by omega) ?_ ?_
  · intro hc2
    change pw_g h 28 4 ≤ (0 : Int) at hc2
    refine pw_ld E (pc' := 26) (st' := [pw_i 0]) rfl (fun _ => rfl) ?_
    refine pw_iret E rfl ?_
    exact ⟨rfl, ⟨_, rfl, by omega, by omega, by rw [px_S0 (by omega)]; rfl⟩⟩
  · intro hc3
    change ¬ (pw_g h 28 4 ≤ (0 : Int)) at hc3
    refine pw_ld E (pc' := 10) (st' := [.ref 3]) rfl (fun _ => rfl) ?_
    refine pw_ld E (pc' := 11) (st' := [.ref 44, .ref 3]) rfl (fun _ => rfl) ?_
    refine pw_getR (b := 45) I E (c := 28) (k := 3) (pc' := 14) rfl rfl rfl rfl rfl rfl rfl ?_
    refine pw_ld E (pc' := 15) (st' := [.ref 44, .ref 45, .ref 3]) rfl (fun _ => rfl) ?_
    refine pw_getI2 I E (c := 28) (k := 4) (pc' := 18) rfl rfl rfl rfl rfl rfl (fun hf4a hf4b => ?_)
    refine pw_ld E (pc' := 19) (st' := [pw_i 1, pw_i (pw_g h 28 4), .ref 45, .ref 3]) rfl (fun _ => rfl) ?_
    refine pw_sub E (pc' := 20) rfl rfl ?_
    refine pw_ald2 I E (c := 29) (pc' := 21) rfl rfl rfl (by decide) rfl (by decide) (by omega) (by omega) rfl (fun hf5a hf5b => ?_)
    refine pw_xaldR E (pc' := 22) rfl hp0 (by omega) (by omega) rfl ?_
    have hrk6 := pw_rk_le (pw_g h 29 (((pw_g h 28 4) - 1).toNat))
    refine pw_goto E (pc' := 26) rfl (by decide) ?_
    refine pw_iret E rfl ?_
    have e1 := px_rkE (x := pw_g h 29 (pw_g h 28 4 - 1).toNat) (by omega) (by omega)
    have e2 := pt_rkB (pw_g h 29 (pw_g h 28 4 - 1).toNat)
    exact ⟨rfl, ⟨_, rfl, by omega, by omega, by rw [px_S1 (c := 28) (by omega), e1]; rfl⟩⟩
set_option maxHeartbeats 4000000 in
theorem cm_52_x28 {X : List (Nat × List Value)} {d : Nat} {h : pm_H} (hd : 2 ≤ d) (I : pw_I h) (rk : Int) (hrk1 : 1 ≤ rk) (hrk2 : rk ≤ 4) (st : Int) (hp0 : pw_Xr X) (hp1 : pw_g h 30 1 + pw_g h 28 4 ≤ 1000) (hp2 : 0 ≤ st) (hp3 : st ≤ pw_g h 30 1) (hp4 : pw_g h 33 (pw_g h 28 8).toNat = pw_g h 30 1) : pw X d h 52 0 [some (.ref 44), some (pw_i rk), some (.ref 46)] [] (fun h' v => pw_I h' ∧ pw_E [28, 30, 33, 36] h h' ∧ (px_RL 28 st rk h h') ∧ (v = .inl none)) := by
  have E : pm_ent 52 = some (3, 3, 5, 4, pmc_52) := rfl
  have E0 : pw_E [28, 30, 33, 36] h h := pw_E.rf _ _
  have L0 : ∀ (n0 : Nat)  (gh0 : pm_H), pw_I gh0 → pw_E [28, 30, 33, 36] h gh0 → pt_rl rk (px_S 28 gh0) (px_C gh0 st) = pt_rl rk (px_S 28 h) (px_C h st) → pw_g gh0 30 1 + pw_g gh0 28 4 = pw_g h 30 1 + pw_g h 28 4 → px_B 28 h gh0 → ((∀ k : Nat, k ≠ 4 → pw_g gh0 28 k = pw_g h 28 k)) → (pw_g gh0 28 4).toNat = n0 → pw X d gh0 52 0 [some (.ref 44), some (pw_i rk), some (.ref 46)] [] (fun h' v => pw_I h' ∧ pw_E [28, 30, 33, 36] h h' ∧ (px_RL 28 st rk h h') ∧ (v = .inl none)) := by
    intro n0
    induction n0 using Nat.strongRecOn with
    | ind n0 ih0 =>
      intro  gh0 I0 E0 hx0_0 hx0_1 hx0_2 hx0_3 hm0
      refine pw_ld E (pc' := 1) (st' := [.ref 44]) rfl (fun _ => rfl) ?_
      refine pw_getI2 I0 E (c := 28) (k := 4) (pc' := 4) rfl rfl rfl rfl rfl rfl (fun hf1a hf1b => ?_)
      have e80 := hx0_3 8 (by decide)
      have hr4 := pw_gI (c := 28) (k := 4) I0 rfl rfl
      have hr1 := pw_gI (c := 30) (k := 1) I0 rfl rfl
      have hB1 := hx0_2.1
      have hXr := hp0
      refine pw_if E (pc' := 48) rfl (by decide) (by omega) (by omega) ?_ ?_
      · intro hc2
        change pw_g gh0 28 4 ≤ (0 : Int) at hc2
        refine pw_vret E rfl ?_
        have hz := px_loopR (c := 28) (rk := rk) (h := gh0) (st := st) (Or.inl (by omega))
        exact ⟨I0, E0, ⟨hx0_0.symm.trans hz, by omega, hx0_2, hx0_3⟩, rfl⟩
      · intro hc3
        change ¬ (pw_g gh0 28 4 ≤ (0 : Int)) at hc3
        refine pw_ld E (pc' := 8) (st' := [.ref 44]) rfl (fun _ => rfl) ?_
        obtain ⟨f4l, f4h, -⟩ := pw_obj (c := 28) I0 rfl
        refine pw_call (m' := 53) (As := [.ref 44]) (rest := []) (ls'' := [some (.ref 44)]) (Nat.le_trans (by decide) hd) E rfl (fun _ => pw_iV rfl rfl rfl rfl (pw_cellI f4h rfl)) (rfl : pm_ent 53 = some (1, 1, 5, 0, pmc_53)) rfl rfl (cm_53_x28 (pw_dp hd (by decide)) I0 hXr) ?_
        rintro u6 v5 ⟨rfl, x7, rfl, hx7a, hx7b, hx7r⟩
        refine ⟨_, rfl, ?_⟩
        show pw X d gh0 52 11 [some (.ref 44), some (pw_i rk), some (.ref 46)] [pw_i x7] _
        change x7 = pt_tr (px_S 28 gh0) at hx7r
        refine pw_ld E (pc' := 12) (st' := [pw_i rk, pw_i x7]) rfl (fun _ => rfl) ?_
        refine pw_if2 E (pc' := 48) rfl (by decide) (by omega) (by omega) (by omega) (by omega) ?_ ?_
        · intro hc8
          change x7 < rk at hc8
          refine pw_vret E rfl ?_
          have hz := px_loopR (c := 28) (rk := rk) (h := gh0) (st := st) (Or.inr (by omega))
          exact ⟨I0, E0, ⟨hx0_0.symm.trans hz, by omega, hx0_2, hx0_3⟩, rfl⟩
        · intro hc9
          change ¬ (x7 < rk) at hc9
          refine pw_ld E (pc' := 16) (st' := [.ref 46]) rfl (fun _ => rfl) ?_
          refine pw_ld E (pc' := 17) (st' := [.ref 44, .ref 46]) rfl (fun _ => rfl) ?_
          refine pw_getI2 I0 E (c := 28) (k := 8) (pc' := 20) rfl rfl rfl rfl rfl rfl (fun hf10a hf10b => ?_)
          refine pw_ld E (pc' := 21) (st' := [.ref 44, pw_i (pw_g gh0 28 8), .ref 46]) rfl (fun _ => rfl) ?_
          refine pw_getR (b := 45) I0 E (c := 28) (k := 3) (pc' := 24) rfl rfl rfl rfl rfl rfl rfl ?_
          refine pw_ld E (pc' := 25) (st' := [.ref 44, .ref 45, pw_i (pw_g gh0 28 8), .ref 46]) rfl (fun _ => rfl) ?_
          refine pw_getI2 I0 E (c := 28) (k := 4) (pc' := 28) rfl rfl rfl rfl rfl rfl (fun hf11a hf11b => ?_)
          refine pw_ld E (pc' := 29) (st' := [pw_i 1, pw_i (pw_g gh0 28 4), .ref 45, pw_i (pw_g gh0 28 8), .ref 46]) rfl (fun _ => rfl) ?_
          refine pw_sub E (pc' := 30) rfl rfl ?_
          refine pw_ald2 I0 E (c := 29) (pc' := 31) rfl rfl rfl (by decide) rfl (by decide) (by omega) (by omega) rfl (fun hf12a hf12b => ?_)
          refine pw_ineg E (pc' := 32) rfl rfl ?_
          obtain ⟨f13l, f13h, -⟩ := pw_obj (c := 30) I0 rfl
          refine pw_call (m' := 71) (As := [.ref 46, pw_i (pw_g gh0 28 8), pw_i (-(pw_g gh0 29 (((pw_g gh0 28 4) - 1).toNat)))]) (rest := []) (ls'' := [some (.ref 46), some (pw_i (pw_g gh0 28 8)), some (pw_i (-(pw_g gh0 29 (((pw_g gh0 28 4) - 1).toNat))))]) (Nat.le_trans (by decide) hd) E rfl (fun _ => pw_iV rfl rfl rfl rfl (pw_cellI f13h rfl)) (rfl : pm_ent 71 = some (3, 3, 7, 4, pmc_71)) rfl rfl (cm_71_x (pw_dp hd (by decide)) I0 (pw_g gh0 28 8) (by omega) (by omega) (-(pw_g gh0 29 (((pw_g gh0 28 4) - 1).toNat))) (by omega) (by omega) (by omega)) ?_
          rintro h14 v15 ⟨h14I, h14E, hqem, rfl⟩
          refine ⟨_, rfl, ?_⟩
          have h14F := E0.tr (h14E.wk (W' := [28, 30, 33, 36]) (by first | rfl | simp))
          show pw X d h14 52 35 [some (.ref 44), some (pw_i rk), some (.ref 46)] [] _
          refine pw_ld E (pc' := 36) (st' := [.ref 44]) rfl (fun _ => rfl) ?_
          refine pw_ld E (pc' := 37) (st' := [.ref 44, .ref 44]) rfl (fun _ => rfl) ?_
          have he17 : pw_g h14 28 4 = pw_g gh0 28 4 := pw_Eg (c := 28) I0 h14E rfl rfl 4
          refine pw_getI2 h14I E (c := 28) (k := 4) (pc' := 40) rfl rfl rfl rfl rfl rfl (fun hf16a hf16b => ?_)
          refine pw_ld E (pc' := 41) (st' := [pw_i 1, pw_i (pw_g h14 28 4), .ref 44]) rfl (fun _ => rfl) ?_
          refine pw_sub E (pc' := 42) rfl rfl ?_
          refine pw_putI h14I E (c := 28) (k := 4) (pc' := 45) rfl rfl rfl rfl (by omega) (by omega) (by omega) (by omega) rfl rfl ?_
          intro h18I h18E
          generalize h18w : pw_w h14 28 4 (pw_i ((pw_g h14 28 4) - 1)) = h18 at h18I h18E ⊢
          have h18F := h14F.tr (h18E.wk (W' := [28, 30, 33, 36]) (by first | rfl | simp))
          have f4 : pw_g h14 28 4 = pw_g gh0 28 4 := pw_Eg (c := 28) I0 h14E rfl rfl 4
          have f5 : pw_g h18 28 4 = pw_g h14 28 4 - 1 := by rw [← h18w]; exact pw_g_eq (c := 28) (k := 4) h14I rfl rfl (by omega) (by omega)
          have f30 : pw_g h18 30 1 = pw_g h14 30 1 := by rw [← h18w]; exact pw_g_ne (by omega)
          have fK : ∀ k : Nat, k ≠ 4 → pw_g h18 28 k = pw_g h 28 k := fun k hk => by rw [← h18w, pw_g_ne (fun q => hk q.2.symm), pw_Eg (c := 28) I0 h14E rfl rfl k]; exact hx0_3 k hk
          have fw : ∀ j : Nat, pw_g h18 29 j = pw_g gh0 29 j := fun j => by rw [← h18w, pw_g_ne (by omega)]; exact pw_Eg (c := 29) I0 h14E rfl rfl j
          have f36 : ∀ j : Nat, pw_g h18 36 j = pw_g h14 36 j := fun j => by rw [← h18w]; exact pw_g_ne (by omega)
          have f33 : ∀ j : Nat, pw_g h18 33 j = pw_g h14 33 j := fun j => by rw [← h18w]; exact pw_g_ne (by omega)
          have hS := px_S1 (c := 28) (h := gh0) (by omega)
          have hS2 : px_S 28 h18 = px_st (pw_g gh0 29) (pw_g gh0 28 4 - 1).toNat := px_S.pop (c := 28) (h := gh0) (by omega) (by omega) fw hS
          have hC2 : px_C h18 st = -(pw_g gh0 29 (pw_g gh0 28 4 - 1).toNat) :: px_C gh0 st := (px_C.eq f30 f36).trans (px_C.em hqem (by omega) (by omega))
          have hPR : pt_rl rk (px_S 28 h18) (px_C h18 st) = pt_rl rk (px_S 28 h) (px_C h st) := by rw [← hx0_0, hS, hS2, hC2]; exact (pt_rl_ge (by rw [hS] at hx7r; have z : x7 = pt_rk (pw_g gh0 29 (pw_g gh0 28 4 - 1).toNat) := hx7r; omega)).symm
          have em1 := hqem.1
          have hBB : px_B 28 h h18 := (px_B.em (c := 28) hx0_2 e80 hqem).eq f30 f36 f33
          refine pw_goto E (pc' := 0) rfl (by decide) ?_
          exact ih0 _ (by omega)  h18 h18I h18F  hPR (by omega) hBB fK rfl
  exact L0 _  h I E0  rfl (by omega) (px_B.rf hp4) (fun _ _ => rfl) rfl
set_option maxHeartbeats 4000000 in
theorem cm_49_x28 {X : List (Nat × List Value)} {d : Nat} {h : pm_H} (hd : 2 ≤ d) (I : pw_I h) (st : Int) (hp0 : pw_g h 30 1 + pw_g h 28 4 ≤ 1000) (hp1 : 0 ≤ st) (hp2 : st ≤ pw_g h 30 1) (hp3 : pw_g h 33 (pw_g h 28 8).toNat = pw_g h 30 1) (hp4 : pw_g h 28 5 = px_dc (px_S 28 h)) (hp5 : pw_g h 28 5 ≤ 5) : pw X d h 49 0 [some (.ref 44), some (.ref 46)] [] (fun h' v => pw_I h' ∧ pw_E [28, 30, 33, 36] h h' ∧ (px_EP 28 st h h') ∧ (v = .inl none)) := by
  have E : pm_ent 49 = some (2, 2, 5, 4, pmc_49) := rfl
  have E0 : pw_E [28, 30, 33, 36] h h := pw_E.rf _ _
  have L0 : ∀ (n0 : Nat)  (gh0 : pm_H), pw_I gh0 → pw_E [28, 30, 33, 36] h gh0 → pt_ep (px_S 28 gh0) (pw_g gh0 28 5) (px_C gh0 st) = pt_ep (px_S 28 h) (pw_g h 28 5) (px_C h st) → pw_g gh0 30 1 + pw_g gh0 28 4 = pw_g h 30 1 + pw_g h 28 4 → px_B 28 h gh0 → ((∀ k : Nat, k ≠ 4 → k ≠ 5 → pw_g gh0 28 k = pw_g h 28 k)) → pw_g gh0 28 5 = px_dc (px_S 28 gh0) → pw_g gh0 28 5 ≤ 5 → (pw_g gh0 28 4).toNat = n0 → pw X d gh0 49 0 [some (.ref 44), some (.ref 46)] [] (fun h' v => pw_I h' ∧ pw_E [28, 30, 33, 36] h h' ∧ (px_EP 28 st h h') ∧ (v = .inl none)) := by
    intro n0
    induction n0 using Nat.strongRecOn with
    | ind n0 ih0 =>
      intro  gh0 I0 E0 hx0_0 hx0_1 hx0_2 hx0_3 hx0_4 hx0_5 hm0
      refine pw_ld E (pc' := 1) (st' := [.ref 44]) rfl (fun _ => rfl) ?_
      refine pw_getI2 I0 E (c := 28) (k := 4) (pc' := 4) rfl rfl rfl rfl rfl rfl (fun hf1a hf1b => ?_)
      have e80 := hx0_3 8 (by decide) (by decide)
      have hr4 := pw_gI (c := 28) (k := 4) I0 rfl rfl
      have hr1 := pw_gI (c := 30) (k := 1) I0 rfl rfl
      have hB1 := hx0_2.1
      have hd0 := px_dcB (px_S 28 gh0)
      refine pw_if E (pc' := 56) rfl (by decide) (by omega) (by omega) ?_ ?_
      · intro hc2
        change pw_g gh0 28 4 ≤ (0 : Int) at hc2
        refine pw_ld E (pc' := 57) (st' := [.ref 44]) rfl (fun _ => rfl) ?_
        refine pw_ld E (pc' := 58) (st' := [pw_i 3, .ref 44]) rfl (fun _ => rfl) ?_
        refine pw_putI I0 E (c := 28) (k := 7) (pc' := 61) rfl rfl rfl rfl (by omega) (by omega) (by omega) (by omega) rfl rfl ?_
        intro h3I h3E
        generalize h3w : pw_w gh0 28 7 (pw_i 3) = h3 at h3I h3E ⊢
        have h3F := E0.tr (h3E.wk (W' := [28, 30, 33, 36]) (by first | rfl | simp))
        have z7 : pw_g h3 28 7 = 3 := by rw [← h3w]; exact pw_g_eq (c := 28) (k := 7) I0 rfl rfl (by omega) (by omega)
        have zk : ∀ k : Nat, k ≠ 7 → pw_g h3 28 k = pw_g gh0 28 k := fun k hk => by rw [← h3w]; exact pw_g_ne (fun q => hk q.2.symm)
        have z4 := zk 4 (by decide)
        have z5 := zk 5 (by decide)
        have z30 : pw_g h3 30 1 = pw_g gh0 30 1 := by rw [← h3w]; exact pw_g_ne (by omega)
        have zS : px_S 28 h3 = px_S 28 gh0 := px_S.eq (c := 28) z4 (fun j => by rw [← h3w]; exact pw_g_ne (by omega))
        have zC : px_C h3 st = px_C gh0 st := px_C.eq z30 (fun j => by rw [← h3w]; exact pw_g_ne (by omega))
        have zB : px_B 28 h h3 := hx0_2.eq z30 (fun j => by rw [← h3w]; exact pw_g_ne (by omega)) (fun j => by rw [← h3w]; exact pw_g_ne (by omega))
        have hz : pt_ep (px_S 28 gh0) (pw_g gh0 28 5) (px_C gh0 st) = (px_S 28 gh0, pw_g gh0 28 5, px_C gh0 st) := by rw [px_S0 (by omega)]; rfl
        refine pw_vret E rfl ?_
        exact ⟨h3I, h3F, ⟨by rw [zS, zC, z5]; exact hx0_0.symm.trans hz, by omega, zB, z7, fun k k4 k5 k7 => (zk k k7).trans (hx0_3 k k4 k5)⟩, rfl⟩
      · intro hc4
        change ¬ (pw_g gh0 28 4 ≤ (0 : Int)) at hc4
        refine pw_ld E (pc' := 8) (st' := [.ref 44]) rfl (fun _ => rfl) ?_
        refine pw_getR (b := 45) I0 E (c := 28) (k := 3) (pc' := 11) rfl rfl rfl rfl rfl rfl rfl ?_
        refine pw_ld E (pc' := 12) (st' := [.ref 44, .ref 45]) rfl (fun _ => rfl) ?_
        refine pw_getI2 I0 E (c := 28) (k := 4) (pc' := 15) rfl rfl rfl rfl rfl rfl (fun hf5a hf5b => ?_)
        refine pw_ld E (pc' := 16) (st' := [pw_i 1, pw_i (pw_g gh0 28 4), .ref 45]) rfl (fun _ => rfl) ?_
        refine pw_sub E (pc' := 17) rfl rfl ?_
        refine pw_ald2 I0 E (c := 29) (pc' := 18) rfl rfl rfl (by decide) rfl (by decide) (by omega) (by omega) rfl (fun hf6a hf6b => ?_)
        refine pw_bip E (pc' := 20) rfl rfl (by decide) ?_
        refine pw_if2 E (pc' := 56) rfl (by decide) (by omega) (by omega) (by decide) (by decide) ?_ ?_
        · intro hc7
          change pw_g gh0 29 (((pw_g gh0 28 4) - 1).toNat) ≠ (8 : Int) at hc7
          refine pw_ld E (pc' := 57) (st' := [.ref 44]) rfl (fun _ => rfl) ?_
          refine pw_ld E (pc' := 58) (st' := [pw_i 3, .ref 44]) rfl (fun _ => rfl) ?_
          refine pw_putI I0 E (c := 28) (k := 7) (pc' := 61) rfl rfl rfl rfl (by omega) (by omega) (by omega) (by omega) rfl rfl ?_
          intro h8I h8E
          generalize h8w : pw_w gh0 28 7 (pw_i 3) = h8 at h8I h8E ⊢
          have h8F := E0.tr (h8E.wk (W' := [28, 30, 33, 36]) (by first | rfl | simp))
          have z7 : pw_g h8 28 7 = 3 := by rw [← h8w]; exact pw_g_eq (c := 28) (k := 7) I0 rfl rfl (by omega) (by omega)
          have zk : ∀ k : Nat, k ≠ 7 → pw_g h8 28 k = pw_g gh0 28 k := fun k hk => by rw [← h8w]; exact pw_g_ne (fun q => hk q.2.symm)
          have z4 := zk 4 (by decide)
          have z5 := zk 5 (by decide)
          have z30 : pw_g h8 30 1 = pw_g gh0 30 1 := by rw [← h8w]; exact pw_g_ne (by omega)
          have zS : px_S 28 h8 = px_S 28 gh0 := px_S.eq (c := 28) z4 (fun j => by rw [← h8w]; exact pw_g_ne (by omega))
          have zC : px_C h8 st = px_C gh0 st := px_C.eq z30 (fun j => by rw [← h8w]; exact pw_g_ne (by omega))
          have zB : px_B 28 h h8 := hx0_2.eq z30 (fun j => by rw [← h8w]; exact pw_g_ne (by omega)) (fun j => by rw [← h8w]; exact pw_g_ne (by omega))
          have hz : pt_ep (px_S 28 gh0) (pw_g gh0 28 5) (px_C gh0 st) = (px_S 28 gh0, pw_g gh0 28 5, px_C gh0 st) := by rw [px_S1 (c := 28) (by omega)]; exact if_neg (by omega)
          refine pw_vret E rfl ?_
          exact ⟨h8I, h8F, ⟨by rw [zS, zC, z5]; exact hx0_0.symm.trans hz, by omega, zB, z7, fun k k4 k5 k7 => (zk k k7).trans (hx0_3 k k4 k5)⟩, rfl⟩
        · intro hc9
          change ¬ (pw_g gh0 29 (((pw_g gh0 28 4) - 1).toNat) ≠ (8 : Int)) at hc9
          refine pw_ld E (pc' := 24) (st' := [.ref 46]) rfl (fun _ => rfl) ?_
          refine pw_ld E (pc' := 25) (st' := [.ref 44, .ref 46]) rfl (fun _ => rfl) ?_
          refine pw_getI2 I0 E (c := 28) (k := 8) (pc' := 28) rfl rfl rfl rfl rfl rfl (fun hf10a hf10b => ?_)
          refine pw_bip E (pc' := 30) rfl rfl (by decide) ?_
          have hS := px_S1 (c := 28) (h := gh0) (by omega)
          have hS : px_S 28 gh0 = 8 :: px_st (pw_g gh0 29) (pw_g gh0 28 4 - 1).toNat := by rw [hS, show pw_g gh0 29 (pw_g gh0 28 4 - 1).toNat = 8 by omega]
          have hdc := hx0_4
          rw [hS] at hdc
          have hdc2 : pw_g gh0 28 5 = px_dc (px_st (pw_g gh0 29) (pw_g gh0 28 4 - 1).toNat) + 1 := hdc
          have hd1 := px_dcB (px_st (pw_g gh0 29) (pw_g gh0 28 4 - 1).toNat)
          obtain ⟨f11l, f11h, -⟩ := pw_obj (c := 30) I0 rfl
          refine pw_call (m' := 71) (As := [.ref 46, pw_i (pw_g gh0 28 8), pw_i ((-8))]) (rest := []) (ls'' := [some (.ref 46), some (pw_i (pw_g gh0 28 8)), some (pw_i ((-8)))]) (Nat.le_trans (by decide) hd) E rfl (fun _ => pw_iV rfl rfl rfl rfl (pw_cellI f11h rfl)) (rfl : pm_ent 71 = some (3, 3, 7, 4, pmc_71)) rfl rfl (cm_71_x (pw_dp hd (by decide)) I0 (pw_g gh0 28 8) (by omega) (by omega) ((-8)) (by omega) (by omega) (by omega)) ?_
          rintro h12 v13 ⟨h12I, h12E, hqem, rfl⟩
          refine ⟨_, rfl, ?_⟩
          have h12F := E0.tr (h12E.wk (W' := [28, 30, 33, 36]) (by first | rfl | simp))
          show pw X d h12 49 33 [some (.ref 44), some (.ref 46)] [] _
          refine pw_ld E (pc' := 34) (st' := [.ref 44]) rfl (fun _ => rfl) ?_
          refine pw_ld E (pc' := 35) (st' := [.ref 44, .ref 44]) rfl (fun _ => rfl) ?_
          have he15 : pw_g h12 28 4 = pw_g gh0 28 4 := pw_Eg (c := 28) I0 h12E rfl rfl 4
          refine pw_getI2 h12I E (c := 28) (k := 4) (pc' := 38) rfl rfl rfl rfl rfl rfl (fun hf14a hf14b => ?_)
          refine pw_ld E (pc' := 39) (st' := [pw_i 1, pw_i (pw_g h12 28 4), .ref 44]) rfl (fun _ => rfl) ?_
          refine pw_sub E (pc' := 40) rfl rfl ?_
          refine pw_putI h12I E (c := 28) (k := 4) (pc' := 43) rfl rfl rfl rfl (by omega) (by omega) (by omega) (by omega) rfl rfl ?_
          intro h16I h16E
          generalize h16w : pw_w h12 28 4 (pw_i ((pw_g h12 28 4) - 1)) = h16 at h16I h16E ⊢
          have h16F := h12F.tr (h16E.wk (W' := [28, 30, 33, 36]) (by first | rfl | simp))
          have f4 : pw_g h12 28 4 = pw_g gh0 28 4 := pw_Eg (c := 28) I0 h12E rfl rfl 4
          have d5a : pw_g h12 28 5 = pw_g gh0 28 5 := pw_Eg (c := 28) I0 h12E rfl rfl 5
          have d5b : pw_g h16 28 5 = pw_g h12 28 5 := by rw [← h16w]; exact pw_g_ne (by omega)
          have f5 : pw_g h16 28 4 = pw_g h12 28 4 - 1 := by rw [← h16w]; exact pw_g_eq (c := 28) (k := 4) h12I rfl rfl (by omega) (by omega)
          refine pw_ld E (pc' := 44) (st' := [.ref 44]) rfl (fun _ => rfl) ?_
          refine pw_ld E (pc' := 45) (st' := [.ref 44, .ref 44]) rfl (fun _ => rfl) ?_
          refine pw_getI2 h16I E (c := 28) (k := 5) (pc' := 48) rfl rfl rfl rfl rfl rfl (fun hf17a hf17b => ?_)
          refine pw_ld E (pc' := 49) (st' := [pw_i 1, pw_i (pw_g h16 28 5), .ref 44]) rfl (fun _ => rfl) ?_
          refine pw_sub E (pc' := 50) rfl rfl ?_
          refine pw_putI h16I E (c := 28) (k := 5) (pc' := 53) rfl rfl rfl rfl (by omega) (by omega) (by omega) (by omega) rfl rfl ?_
          intro h18I h18E
          generalize h18w : pw_w h16 28 5 (pw_i ((pw_g h16 28 5) - 1)) = h18 at h18I h18E ⊢
          have h18F := h16F.tr (h18E.wk (W' := [28, 30, 33, 36]) (by first | rfl | simp))
          have d5c : pw_g h18 28 5 = pw_g h16 28 5 - 1 := by rw [← h18w]; exact pw_g_eq (c := 28) (k := 5) h16I rfl rfl (by omega) (by omega)
          have f6 : pw_g h18 28 4 = pw_g h16 28 4 := by rw [← h18w]; exact pw_g_ne (by omega)
          have f30 : pw_g h18 30 1 = pw_g h12 30 1 := by rw [← h18w, pw_g_ne (by omega), ← h16w]; exact pw_g_ne (by omega)
          have fK : ∀ k : Nat, k ≠ 4 → k ≠ 5 → pw_g h18 28 k = pw_g h 28 k := fun k hk hk5 => by rw [← h18w, pw_g_ne (fun q => hk5 q.2.symm), ← h16w, pw_g_ne (fun q => hk q.2.symm), pw_Eg (c := 28) I0 h12E rfl rfl k]; exact hx0_3 k hk hk5
          have fw : ∀ j : Nat, pw_g h18 29 j = pw_g gh0 29 j := fun j => by rw [← h18w, pw_g_ne (by omega), ← h16w, pw_g_ne (by omega)]; exact pw_Eg (c := 29) I0 h12E rfl rfl j
          have f36 : ∀ j : Nat, pw_g h18 36 j = pw_g h12 36 j := fun j => by rw [← h18w, pw_g_ne (by omega), ← h16w]; exact pw_g_ne (by omega)
          have f33 : ∀ j : Nat, pw_g h18 33 j = pw_g h12 33 j := fun j => by rw [← h18w, pw_g_ne (by omega), ← h16w]; exact pw_g_ne (by omega)
          have hS2 : px_S 28 h18 = px_st (pw_g gh0 29) (pw_g gh0 28 4 - 1).toNat := px_S.pop (c := 28) (h := gh0) (by omega) (by omega) fw hS
          have hC2 : px_C h18 st = -8 :: px_C gh0 st := (px_C.eq f30 f36).trans (px_C.em hqem (by omega) (by omega))
          have hPR : pt_ep (px_S 28 h18) (pw_g h18 28 5) (px_C h18 st) = pt_ep (px_S 28 h) (pw_g h 28 5) (px_C h st) := by rw [← hx0_0, hS, hS2, hC2, show pw_g h18 28 5 = pw_g gh0 28 5 - 1 by omega]; exact (if_pos rfl : pt_ep (8 :: _) _ _ = _).symm
          have em1 := hqem.1
          have hBB : px_B 28 h h18 := (px_B.em (c := 28) hx0_2 e80 hqem).eq f30 f36 f33
          have hDC : pw_g h18 28 5 = px_dc (px_S 28 h18) := by rw [hS2]; omega
          refine pw_goto E (pc' := 0) rfl (by decide) ?_
          exact ih0 _ (by omega)  h18 h18I h18F  hPR (by omega) hBB fK hDC (by omega) rfl
  exact L0 _  h I E0  rfl (by omega) (px_B.rf hp3) (fun _ _ _ => rfl) hp4 (by omega) rfl
end
section
/-! texts: the class's Tokens -/
def px_TW (h h' : pm_H) : Prop := pw_g h' 24 1 = pw_g h 24 1 ∧ pw_g h' 24 2 = pw_g h 24 2 ∧ pw_g h 24 3 < pw_g h' 24 3 ∧ pw_g h' 24 3 ≤ pw_g h 24 1 ∧ (∀ j : Nat, (pw_g h 24 3).toNat ≤ j → j < (pw_g h' 24 3).toNat → pt_le (pw_g h 25 j)) ∧ (pw_g h' 24 3 < pw_g h 24 1 → ¬ pt_le (pw_g h 25 (pw_g h' 24 3).toNat)) ∧ (8 < pw_g h' 24 3 - pw_g h 24 2 → pw_g h' 24 4 = 0) ∧ (pw_g h' 24 3 - pw_g h 24 2 ≤ 8 → pw_g h' 24 4 = 1)
def px_TN (h h' : pm_H) : Prop := pw_g h' 24 1 = pw_g h 24 1 ∧ pw_g h' 24 2 = pw_g h 24 2 ∧ pw_g h 24 3 < pw_g h' 24 3 ∧ pw_g h' 24 3 ≤ pw_g h 24 1 ∧ (∀ j : Nat, (pw_g h 24 3).toNat ≤ j → j < (pw_g h' 24 3).toNat → pt_di (pw_g h 25 j)) ∧ (pw_g h' 24 3 < pw_g h 24 1 → ¬ pt_di (pw_g h 25 (pw_g h' 24 3).toNat)) ∧ (4 < pw_g h' 24 3 - pw_g h 24 2 → pw_g h' 24 4 = 0) ∧ (pw_g h' 24 3 - pw_g h 24 2 ≤ 4 → pw_g h' 24 4 = 2 ∧ pw_g h' 24 5 = pt_hd (pw_g h 25) (pw_g h 24 2).toNat (pw_g h' 24 3 - pw_g h 24 2).toNat)
/-- the next token, or none -/
def px_AD (h h' : pm_H) : Prop := pw_g h' 24 1 = pw_g h 24 1 ∧ (((∀ j : Nat, (pw_g h 24 3).toNat ≤ j → j < (pw_g h 24 1).toNat → pt_bl (pw_g h 25 j)) ∧ pw_g h' 24 4 = 4 ∧ pw_g h' 24 2 = pw_g h 24 1 ∧ pw_g h' 24 3 = pw_g h 24 1) ∨
  ∃ t : pt_tok, ((pw_g h 24 3).toNat ≤ t.1 ∧ ∀ j : Nat, (pw_g h 24 3).toNat ≤ j → j < t.1 → pt_bl (pw_g h 25 j)) ∧ pt_ta (pw_g h 25) (pw_g h 24 1).toNat t ∧ pw_g h' 24 2 = t.1 ∧ pw_g h' 24 3 = t.2.1 ∧ (t.2.2.1 ≠ 4 → pw_g h' 24 4 = t.2.2.1) ∧ (t.2.2.1 = 4 → pw_g h' 24 4 = 0) ∧ (t.2.2.1 = 2 ∨ t.2.2.1 = 3 → pw_g h' 24 5 = t.2.2.2))
theorem px_AD.st {h h' : pm_H} {L : List pt_tok} (H : px_AD h h') (S : pt_sg (pw_g h 25) (pw_g h 24 1).toNat (pw_g h 24 3).toNat L (pw_g h 24 1).toNat) : (L = [] ∧ pw_g h' 24 4 = 4 ∧ pw_g h' 24 2 = pw_g h 24 1 ∧ pw_g h' 24 3 = pw_g h 24 1) ∨ ∃ (t : pt_tok) (L' : List pt_tok), L = t :: L' ∧ pt_ta (pw_g h 25) (pw_g h 24 1).toNat t ∧ pw_g h' 24 2 = t.1 ∧ pw_g h' 24 3 = t.2.1 ∧ (t.2.2.1 ≠ 4 → pw_g h' 24 4 = t.2.2.1) ∧ (t.2.2.1 = 4 → pw_g h' 24 4 = 0) ∧ (t.2.2.1 = 2 ∨ t.2.2.1 = 3 → pw_g h' 24 5 = t.2.2.2) ∧ pt_sg (pw_g h 25) (pw_g h 24 1).toNat t.2.1 L' (pw_g h 24 1).toNat := by
  cases L with
  | nil =>
    rcases H.2 with ⟨-, a⟩ | ⟨t, a, b, -⟩
    · exact Or.inl ⟨rfl, a⟩
    · exact absurd (S.2 t.1 a.1 (Nat.lt_of_lt_of_le b.1 b.2.1)) b.nb
  | cons u L' =>
    rcases H.2 with ⟨a, -⟩ | ⟨t, a, b, c⟩
    · exact absurd (a u.1 S.1.1 (Nat.lt_of_lt_of_le S.2.1.1 S.2.1.2.1)) S.2.1.nb
    · have e : t.1 = u.1 := by
        rcases (by omega : t.1 < u.1 ∨ u.1 < t.1 ∨ t.1 = u.1) with q | q | q
        · exact absurd (S.1.2 t.1 a.1 q) b.nb
        · exact absurd (a.2 u.1 S.1.1 q) S.2.1.nb
        · exact q
      have e2 := b.eq S.2.1 e
      subst e2
      exact Or.inr ⟨t, L', rfl, b, c.1, c.2.1, c.2.2.1, c.2.2.2.1, c.2.2.2.2, S.2.2⟩
/-- a word's end, a numeral's, a sign's: the token -/
theorem px_TW.ta {h h' : pm_H} (H : px_TW h h') (e1 : pw_g h 24 2 = pw_g h 24 3) (s0 : 0 ≤ pw_g h 24 3) : pt_ta (pw_g h 25) (pw_g h 24 1).toNat ((pw_g h 24 2).toNat, (pw_g h' 24 3).toNat, (if pw_g h' 24 3 - pw_g h 24 2 ≤ 8 then (1 : Int) else 4), pt_hw (pw_g h 25) (pw_g h 24 2).toNat (min 8 ((pw_g h' 24 3).toNat - (pw_g h 24 2).toNat))) := by
  obtain ⟨a1, a2, a3, a4, a5, a6, a7, a8⟩ := H
  refine pt_taW (by omega) (by omega) (fun j p q => a5 j (by omega) q) (fun q => a6 (by omega)) (fun q => if_neg (by omega)) (fun q => if_pos (by omega)) rfl
theorem px_TN.ta {h h' : pm_H} (H : px_TN h h') (e1 : pw_g h 24 2 = pw_g h 24 3) (s0 : 0 ≤ pw_g h 24 3) : pt_ta (pw_g h 25) (pw_g h 24 1).toNat ((pw_g h 24 2).toNat, (pw_g h' 24 3).toNat, (if pw_g h' 24 3 - pw_g h 24 2 ≤ 4 then (2 : Int) else 4), pt_hd (pw_g h 25) (pw_g h 24 2).toNat (min 4 ((pw_g h' 24 3).toNat - (pw_g h 24 2).toNat))) := by
  obtain ⟨a1, a2, a3, a4, a5, a6, a7, a8⟩ := H
  refine pt_taN (by omega) (by omega) (fun j p q => a5 j (by omega) q) (fun q => a6 (by omega)) (fun q => if_neg (by omega)) (fun q => if_pos (by omega)) rfl
theorem px_nmE {X : List (Nat × List Value)} {d : Nat} {h : pm_H} {m pc : Nat} {ls : pm_L} {r : List Value} {Q : pm_H → (Option Value ⊕ Unit) → Prop} {a : Int} (H : ∀ b : Int, -2147483648 ≤ b → b ≤ 2147483647 → ((a < -2147483648 ∨ 2147483647 < a) ∨ b = a) → pw X d h m pc ls (pw_i b :: r) Q) : pw X d h m pc ls (pw_i a :: r) Q := by
  by_cases hr : a < -2147483648 ∨ 2147483647 < a
  · exact pw_nm (fun b h1 h2 => H b h1 h2 (Or.inl hr))
  · exact H a (by omega) (by omega) (Or.inr rfl)
theorem px_AD.w {h H h' : pm_H} (T : px_TW H h') (hT : pw_g H 25 = pw_g h 25) (e1 : pw_g H 24 1 = pw_g h 24 1) (e3 : pw_g H 24 2 = pw_g H 24 3) (s0 : pw_g h 24 3 ≤ pw_g H 24 2) (z0 : 0 ≤ pw_g h 24 3) (bl : ∀ j : Nat, (pw_g h 24 3).toNat ≤ j → j < (pw_g H 24 2).toNat → pt_bl (pw_g h 25 j)) : px_AD h h' := by
  have ta := T.ta e3 (by omega)
  rw [hT, e1] at ta
  obtain ⟨a1, a2, a3, a4, a5, a6, a7, a8⟩ := T
  refine ⟨by omega, Or.inr ⟨_, ⟨?_, fun j p q => bl j p q⟩, ta, ?_, ?_, ?_, ?_, ?_⟩⟩
  · show (pw_g h 24 3).toNat ≤ (pw_g H 24 2).toNat
    omega
  · show pw_g h' 24 2 = (((pw_g H 24 2).toNat : Nat) : Int)
    omega
  · show pw_g h' 24 3 = (((pw_g h' 24 3).toNat : Nat) : Int)
    omega
  · show (if pw_g h' 24 3 - pw_g H 24 2 ≤ 8 then (1 : Int) else 4) ≠ 4 → pw_g h' 24 4 = if pw_g h' 24 3 - pw_g H 24 2 ≤ 8 then (1 : Int) else 4
    intro q
    by_cases c : pw_g h' 24 3 - pw_g H 24 2 ≤ 8
    · rw [if_pos c]; exact a8 c
    · rw [if_neg c] at q; exact absurd rfl q
  · show (if pw_g h' 24 3 - pw_g H 24 2 ≤ 8 then (1 : Int) else 4) = 4 → pw_g h' 24 4 = 0
    intro q
    by_cases c : pw_g h' 24 3 - pw_g H 24 2 ≤ 8
    · rw [if_pos c] at q; exact absurd q (by decide)
    · exact a7 (by omega)
  · show (if pw_g h' 24 3 - pw_g H 24 2 ≤ 8 then (1 : Int) else 4) = 2 ∨ (if pw_g h' 24 3 - pw_g H 24 2 ≤ 8 then (1 : Int) else 4) = 3 → _
    intro q
    exfalso
    by_cases c : pw_g h' 24 3 - pw_g H 24 2 ≤ 8
    · rw [if_pos c] at q; exact absurd q (by decide)
    · rw [if_neg c] at q; exact absurd q (by decide)
theorem px_AD.n {h H h' : pm_H} (T : px_TN H h') (hT : pw_g H 25 = pw_g h 25) (e1 : pw_g H 24 1 = pw_g h 24 1) (e3 : pw_g H 24 2 = pw_g H 24 3) (s0 : pw_g h 24 3 ≤ pw_g H 24 2) (z0 : 0 ≤ pw_g h 24 3) (bl : ∀ j : Nat, (pw_g h 24 3).toNat ≤ j → j < (pw_g H 24 2).toNat → pt_bl (pw_g h 25 j)) : px_AD h h' := by
  have ta := T.ta e3 (by omega)
  obtain ⟨a1, a2, a3, a4, a5, a6, a7, a8⟩ := T
  rw [hT] at a8
  rw [hT, e1] at ta
  refine ⟨by omega, Or.inr ⟨_, ⟨?_, fun j p q => bl j p q⟩, ta, ?_, ?_, ?_, ?_, ?_⟩⟩
  · show (pw_g h 24 3).toNat ≤ (pw_g H 24 2).toNat
    omega
  · show pw_g h' 24 2 = (((pw_g H 24 2).toNat : Nat) : Int)
    omega
  · show pw_g h' 24 3 = (((pw_g h' 24 3).toNat : Nat) : Int)
    omega
  · show (if pw_g h' 24 3 - pw_g H 24 2 ≤ 4 then (2 : Int) else 4) ≠ 4 → pw_g h' 24 4 = if pw_g h' 24 3 - pw_g H 24 2 ≤ 4 then (2 : Int) else 4
    intro q
    by_cases c : pw_g h' 24 3 - pw_g H 24 2 ≤ 4
    · rw [if_pos c]; exact (a8 c).1
    · rw [if_neg c] at q; exact absurd rfl q
  · show (if pw_g h' 24 3 - pw_g H 24 2 ≤ 4 then (2 : Int) else 4) = 4 → pw_g h' 24 4 = 0
    intro q
    by_cases c : pw_g h' 24 3 - pw_g H 24 2 ≤ 4
    · rw [if_pos c] at q; exact absurd q (by decide)
    · exact a7 (by omega)
  · show (if pw_g h' 24 3 - pw_g H 24 2 ≤ 4 then (2 : Int) else 4) = 2 ∨ (if pw_g h' 24 3 - pw_g H 24 2 ≤ 4 then (2 : Int) else 4) = 3 → pw_g h' 24 5 = pt_hd (pw_g h 25) (pw_g H 24 2).toNat (min 4 ((pw_g h' 24 3).toNat - (pw_g H 24 2).toNat))
    intro q
    by_cases c : pw_g h' 24 3 - pw_g H 24 2 ≤ 4
    · rw [(a8 c).2, show (pw_g h' 24 3 - pw_g H 24 2).toNat = min 4 ((pw_g h' 24 3).toNat - (pw_g H 24 2).toNat) by omega]
    · rw [if_neg c] at q; exact absurd q (by decide)
theorem px_AD.s {h h' : pm_H} {s : Int} (e1 : pw_g h' 24 1 = pw_g h 24 1) (e2 : pw_g h' 24 2 = s) (e3 : pw_g h' 24 3 = s + 1) (lt : s < pw_g h 24 1) (s0 : pw_g h 24 3 ≤ s) (z0 : 0 ≤ pw_g h 24 3) (bl : ∀ j : Nat, (pw_g h 24 3).toNat ≤ j → j < s.toNat → pt_bl (pw_g h 25 j)) (nb : ¬ pt_bl (pw_g h 25 s.toNat)) (nl : ¬ pt_le (pw_g h 25 s.toNat)) (nd : ¬ pt_di (pw_g h 25 s.toNat)) (kd : (pt_si (pw_g h 25 s.toNat) ∧ pw_g h' 24 4 = 3) ∨ (¬ pt_si (pw_g h 25 s.toNat) ∧ pw_g h' 24 4 = 0)) (v : pw_g h' 24 5 = pw_g h 25 s.toNat) : px_AD h h' := by
  rcases kd with ⟨q, k⟩ | ⟨q, k⟩
  · refine ⟨e1, Or.inr ⟨(s.toNat, s.toNat + 1, 3, pw_g h 25 s.toNat), ⟨?_, fun j p q => bl j p q⟩, pt_taS rfl (by omega) nb nl nd (fun _ => rfl) (fun z => absurd q z) rfl, ?_, ?_, fun _ => k, fun z => absurd (show (3 : Int) = 4 from z) (by decide), fun _ => v⟩⟩
    · show (pw_g h 24 3).toNat ≤ s.toNat
      omega
    · show pw_g h' 24 2 = ((s.toNat : Nat) : Int)
      omega
    · show pw_g h' 24 3 = ((s.toNat + 1 : Nat) : Int)
      omega
  · refine ⟨e1, Or.inr ⟨(s.toNat, s.toNat + 1, 4, pw_g h 25 s.toNat), ⟨?_, fun j p q => bl j p q⟩, pt_taS rfl (by omega) nb nl nd (fun z => absurd z q) (fun _ => rfl) rfl, ?_, ?_, fun z => absurd rfl z, fun _ => k, fun z => absurd (show (4 : Int) = 2 ∨ (4 : Int) = 3 from z) (by decide)⟩⟩
    · show (pw_g h 24 3).toNat ≤ s.toNat
      omega
    · show pw_g h' 24 2 = ((s.toNat : Nat) : Int)
      omega
    · show pw_g h' 24 3 = ((s.toNat + 1 : Nat) : Int)
      omega
end
section
/-! texts: the class's constant strings -/
/-- the strings are those of the start -/
def pw_Xs (X : List (Nat × List Value)) : Prop := ∀ p : Nat, 4 ≤ p → p < 12 → X[p]? = pw_X0[p]?
theorem pw_Xs0 (xs : List Int32) : pw_Xs (pm_ext xs) := by
  intro p h1 h2
  rcases (by omega : p = 4 ∨ p = 5 ∨ p = 6 ∨ p = 7 ∨ p = 8 ∨ p = 9 ∨ p = 10 ∨ p = 11) with rfl | rfl | rfl | rfl | rfl | rfl | rfl | rfl <;> rfl
theorem px_sx {X : List (Nat × List Value)} {p : Nat} (hS : pw_Xs X) (h1 : 4 ≤ p) (h2 : p < 12) : pm_sx X p = pm_sx pw_X0 p := by
  unfold pm_sx
  rw [pm_nth_eq, pm_nth_eq, hS p h1 h2]
noncomputable def px_ix (l : List Value) (z : Int) : Int32 := if Int32.ofInt z < 0 ∨ (255 : Int32) < Int32.ofInt z then -1 else pm_ixF (Int32.ofInt z).toInt8.toInt32 l 0
noncomputable def px_s8b : Bool := match pm_sx pw_X0 8 with
  | some l => (List.range 256).all (fun n => (decide (-1 ≤ (px_ix l (n : Int)).toInt) && decide ((px_ix l (n : Int)).toInt ≤ 60)) && (decide (0 ≤ (px_ix l (n : Int)).toInt) == decide ((n : Int) = 40 ∨ (n : Int) = 41 ∨ (n : Int) = 59 ∨ (n : Int) = 61 ∨ (n : Int) = 60 ∨ (n : Int) = 43 ∨ (n : Int) = 45 ∨ (n : Int) = 42)))
  | none => false
theorem px_s8ok : px_s8b = true := by decide +kernel
theorem px_s8 : ∃ l, pm_sx pw_X0 8 = some l ∧ ∀ z : Int, 0 ≤ z → z ≤ 255 → -1 ≤ (px_ix l z).toInt ∧ (px_ix l z).toInt ≤ 60 ∧ ((0 ≤ (px_ix l z).toInt ∧ pt_si z) ∨ ((px_ix l z).toInt = -1 ∧ ¬ pt_si z)) := by
  have h := px_s8ok
  unfold px_s8b at h
  split at h
  · rename_i l hl
    refine ⟨l, hl, fun z h0 h1 => ?_⟩
    rw [List.all_eq_true] at h
    have a := h z.toNat (List.mem_range.mpr (by omega))
    rw [Int.toNat_of_nonneg h0, Bool.and_eq_true, Bool.and_eq_true, decide_eq_true_iff, decide_eq_true_iff, beq_iff_eq] at a
    obtain ⟨⟨a1, a2⟩, a3⟩ := a
    refine ⟨a1, a2, ?_⟩
    by_cases q : 0 ≤ (px_ix l z).toInt
    · rw [decide_eq_true q] at a3
      have w := of_decide_eq_true a3.symm
      exact Or.inl ⟨q, w⟩
    · rw [decide_eq_false q] at a3
      have w := of_decide_eq_false a3.symm
      exact Or.inr ⟨by omega, w⟩
  · cases h
section Pu
variable {X : List (Nat × List Value)} {d : Nat} {h : pm_H} {m pc len na nl own rt : Nat} {C : pm_T (Instr × Nat)} {ls : pm_L} {r : List Value} {Q : pm_H → (Option Value ⊕ Unit) → Prop}
theorem pw_sidxE {ix : Nat} {z : Int} (he : pm_ent m = some (na, nl, own, rt, C)) (hq : pm_get C pc = some (.invokevirtual ix, len)) (hl : pm_get (pm_lnk own) ix = some (15, 9, 0, 0)) (hS : pw_Xs X) (z0 : 0 ≤ z) (z1 : z ≤ 65535) (h8 : pm_cat8 (pw_i 0 :: r) = true) (H : ∀ x : Int, -1 ≤ x → x ≤ 60 → ((0 ≤ x ∧ pt_si z) ∨ (x = -1 ∧ ¬ pt_si z)) → pw X d h m (pc + 3) ls (pw_i x :: r) Q) : pw X d h m pc ls (pw_i z :: .ref 8 :: r) Q := by
  obtain ⟨l, hs, hx⟩ := px_s8
  rw [← px_sx hS (by decide) (by decide)] at hs
  have e255 : (255 : Int32).toInt = 255 := by decide
  obtain ⟨a1, a2, a3⟩ : -1 ≤ (px_ix l z).toInt ∧ (px_ix l z).toInt ≤ 60 ∧ ((0 ≤ (px_ix l z).toInt ∧ pt_si z) ∨ ((px_ix l z).toInt = -1 ∧ ¬ pt_si z)) := by
    by_cases q : z ≤ 255
    · exact hx z z0 q
    · have e : px_ix l z = -1 := if_pos (Or.inr (by rw [Int32.lt_iff_toInt_lt, pw_toInt (by omega) (by omega), e255]; omega))
      have e1 : (px_ix l z).toInt = -1 := by rw [e]; decide
      exact ⟨by omega, by omega, Or.inr ⟨e1, fun w => by unfold pt_si at w; omega⟩⟩
  have e : pw_i (px_ix l z).toInt = Value.int (px_ix l z) := by unfold pw_i; rw [Int32.ofInt_toInt]
  have K := H _ a1 a2 a3
  rw [e] at K
  refine pw_ld he hq (fun ih => ?_) K
  refine (pw_str0 (len := len) hl).trans ?_
  show (match pm_sx X 8 with
    | some l => cond (pm_cat8 (.int (px_ix l z) :: r)) (pm_fn (pc + 3) fun q => ih d h m q ls (.int (px_ix l z) :: r)) none
    | none => none) = _
  rw [hs]
  show cond (pm_cat8 (.int (px_ix l z) :: r)) (pm_fn (pc + 3) fun q => ih d h m q ls (.int (px_ix l z) :: r)) none = _
  have h8' : pm_cat8 (.int (px_ix l z) :: r) = true := h8
  rw [h8', cond_true, pm_fn_eq]
/-- a character of a constant string -/
def px_cv (v : Value) : Int := match v with
  | .int x => (x &&& 255).toInt
  | _ => 0
theorem pw_schrE {ix p : Nat} {l : List Value} {j : Int} (he : pm_ent m = some (na, nl, own, rt, C)) (hq : pm_get C pc = some (.invokevirtual ix, len)) (hl : pm_get (pm_lnk own) ix = some (15, 8, 0, 0)) (hs : pm_sx X p = some l) (hi : pw_ints l) (hn : l.length ≤ 60) (h0 : 0 ≤ j) (h1 : j < l.length) (h8 : pm_cat8 (pw_i 0 :: r) = true) (H : ∀ x : Int, 0 ≤ x → x ≤ 255 → (l.map px_cv)[j.toNat]? = some x → pw X d h m (pc + 3) ls (pw_i x :: r) Q) : pw X d h m pc ls (pw_i j :: .ref p :: r) Q := by
  have hlt : j.toNat < l.length := by omega
  obtain ⟨y, hy⟩ := hi j.toNat _ (List.getElem?_eq_getElem hlt)
  obtain ⟨b, b1, b2, b3⟩ := pw_and255 y
  have hb : (l.map px_cv)[j.toNat]? = some b := by
    rw [List.getElem?_map, List.getElem?_eq_getElem hlt, hy]
    show some ((y &&& 255).toInt) = some b
    have e : (y &&& 255) = Int32.ofInt b := by
      unfold pw_i at b3
      exact Value.int.inj b3
    rw [e, pw_toInt (by omega) (by omega)]
  refine pw_ld he hq (st' := .int (y &&& 255) :: r) (pc' := pc + 3) (fun ih => ?_) (by rw [b3]; exact H b b1 b2 hb)
  refine (pw_str0 (len := len) hl).trans ?_
  show (match pm_sx X p with
    | some l => cond (decide (Int32.ofInt j < 0)) none (match pm_nth l (Int32.ofInt j).toNatClampNeg with
      | some (.int x) => cond (pm_cat8 (.int (x &&& 255) :: r)) (pm_fn (pc + 3) fun q => ih d h m q ls (.int (x &&& 255) :: r)) none
      | _ => none)
    | none => none) = _
  rw [hs]
  show cond (decide (Int32.ofInt j < 0)) none (match pm_nth l (Int32.ofInt j).toNatClampNeg with
      | some (.int x) => cond (pm_cat8 (.int (x &&& 255) :: r)) (pm_fn (pc + 3) fun q => ih d h m q ls (.int (x &&& 255) :: r)) none
      | _ => none) = _
  rw [decide_eq_false (pw_neg h0 (by omega)), cond_false, pw_clamp h0 (by omega), pm_nth_eq, List.getElem?_eq_getElem hlt, hy]
  show cond (pm_cat8 (.int (y &&& 255) :: r)) (pm_fn (pc + 3) fun q => ih d h m q ls (.int (y &&& 255) :: r)) none = _
  have h8' : pm_cat8 (.int (y &&& 255) :: r) = true := h8
  rw [h8', cond_true, pm_fn_eq]
end Pu
/-- the number of a word in a list: what is still to come of the list, how many are behind, how far the word fits -/
def px_wa (T : Nat → Int) (s e k0 : Int) : List Int → Int → Int → Int → Int
  | [], _, _, _ => -1
  | c :: r, n, a, b => if c ≠ 32 then px_wa T s e k0 r n (a + 1) (if b ≠ 0 ∧ a < e ∧ T a.toNat = c then 1 else 0) else if b ≠ 0 ∧ a = e then n else px_wa T s e k0 r (n + 1) s k0
/-- one word of the list -/
theorem px_wa_w {T : Nat → Int} {s e k0 n : Int} {r : List Int} : ∀ (w : List Int) (a b : Int), (∀ c ∈ w, c ≠ 32) → px_wa T s e k0 (w ++ 32 :: r) n a b = if b ≠ 0 ∧ a + w.length = e ∧ ∀ j : Nat, j < w.length → T (a + j).toNat = w.getD j 0 then n else px_wa T s e k0 r (n + 1) s k0 := by
  intro w
  induction w with
  | nil =>
    intro a b _
    show (if (32 : Int) ≠ 32 then _ else if b ≠ 0 ∧ a = e then n else px_wa T s e k0 r (n + 1) s k0) = _
    rw [if_neg (fun q => q rfl)]
    by_cases q : b ≠ 0 ∧ a = e
    · rw [if_pos q, if_pos ⟨q.1, by show a + 0 = e; omega, fun j hj => absurd hj (by show ¬ j < 0; omega)⟩]
    · rw [if_neg q, if_neg (fun z => q ⟨z.1, by have : a + 0 = e := z.2.1; omega⟩)]
  | cons c w ih =>
    intro a b hw
    show (if c ≠ 32 then px_wa T s e k0 (w ++ 32 :: r) n (a + 1) (if b ≠ 0 ∧ a < e ∧ T a.toNat = c then 1 else 0) else _) = _
    rw [if_pos (hw c (List.mem_cons_self ..)), ih _ _ (fun x hx => hw x (List.mem_cons_of_mem _ hx))]
    have hl : (((c :: w).length : Nat) : Int) = w.length + 1 := by rw [List.length_cons]; omega
    have key : ((if b ≠ 0 ∧ a < e ∧ T a.toNat = c then (1 : Int) else 0) ≠ 0 ∧ a + 1 + w.length = e ∧ ∀ j : Nat, j < w.length → T (a + 1 + j).toNat = w.getD j 0) ↔ (b ≠ 0 ∧ a + (c :: w).length = e ∧ ∀ j : Nat, j < (c :: w).length → T (a + j).toNat = (c :: w).getD j 0) := by
      constructor
      · rintro ⟨q1, q2, q3⟩
        have z : b ≠ 0 ∧ a < e ∧ T a.toNat = c := by
          by_cases z : b ≠ 0 ∧ a < e ∧ T a.toNat = c
          · exact z
          · rw [if_neg z] at q1; exact absurd rfl q1
        refine ⟨z.1, by omega, fun j hj => ?_⟩
        cases j with
        | zero => rw [show a + ((0 : Nat) : Int) = a by omega]; exact z.2.2
        | succ j =>
          rw [show a + ((j + 1 : Nat) : Int) = a + 1 + j by omega]
          exact q3 j (by rw [List.length_cons] at hj; omega)
      · rintro ⟨q1, q2, q3⟩
        have z0 := q3 0 (by rw [List.length_cons]; omega)
        rw [show a + ((0 : Nat) : Int) = a by omega] at z0
        refine ⟨?_, by omega, fun j hj => ?_⟩
        · rw [if_pos ⟨q1, by omega, z0⟩]; decide
        · have z := q3 (j + 1) (by rw [List.length_cons]; omega)
          rw [show a + ((j + 1 : Nat) : Int) = a + 1 + j by omega] at z
          exact z
    by_cases q : b ≠ 0 ∧ a + (c :: w).length = e ∧ ∀ j : Nat, j < (c :: w).length → T (a + j).toNat = (c :: w).getD j 0
    · rw [if_pos q, if_pos (key.mpr q)]
    · rw [if_neg q, if_neg (fun z => q (key.mp z))]
noncomputable def px_str (X : List (Nat × List Value)) (p : Nat) : List Int := match pm_sx X p with
  | some l => l.map px_cv
  | none => []
theorem px_str_eq {X : List (Nat × List Value)} {p : Nat} {l : List Value} (h : pm_sx X p = some l) : px_str X p = l.map px_cv := by
  unfold px_str
  rw [h]
theorem px_drop {l : List Int} {n : Nat} {x : Int} (h : l[n]? = some x) : l.drop n = x :: l.drop (n + 1) := by
  obtain ⟨hn, e⟩ := List.getElem?_eq_some_iff.mp h
  rw [← e]
  exact List.drop_eq_getElem_cons hn
theorem px_wa_n {T : Nat → Int} {s e k0 c n a b : Int} {r : List Int} (h : c ≠ 32) : px_wa T s e k0 (c :: r) n a b = px_wa T s e k0 r n (a + 1) (if b ≠ 0 ∧ a < e ∧ T a.toNat = c then 1 else 0) := if_pos h
theorem px_wa_b {T : Nat → Int} {s e k0 c n a b : Int} {r : List Int} (h : c = 32) (h2 : ¬ (b ≠ 0 ∧ a = e)) : px_wa T s e k0 (c :: r) n a b = px_wa T s e k0 r (n + 1) s k0 := by
  have e1 : px_wa T s e k0 (c :: r) n a b = if b ≠ 0 ∧ a = e then n else px_wa T s e k0 r (n + 1) s k0 := if_neg (fun q => q h)
  rw [e1, if_neg h2]
theorem px_wa_f {T : Nat → Int} {s e k0 c n a b : Int} {r : List Int} (h : c = 32) (h2 : b ≠ 0 ∧ a = e) : px_wa T s e k0 (c :: r) n a b = n := by
  have e1 : px_wa T s e k0 (c :: r) n a b = if b ≠ 0 ∧ a = e then n else px_wa T s e k0 r (n + 1) s k0 := if_neg (fun q => q h)
  rw [e1, if_pos h2]
end
