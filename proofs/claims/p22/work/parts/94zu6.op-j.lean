section
/-! the class's Readers, exactly: operators, brackets, ends -/
set_option maxHeartbeats 4000000 in
theorem cm_107_x24 {X : List (Nat × List Value)} {d : Nat} {h : pm_H} (hd : 1 ≤ d) (I : pw_I h)  : pw X d h 107 0 [some (.ref 40)] [] (fun h' v => h = h' ∧ ∃ a : Int, v = .inl (some (pw_i a)) ∧ 0 ≤ a ∧ a ≤ 4 ∧ (a = pw_g h 24 4)) := by
  have E : pm_ent 107 = some (1, 1, 9, 0, pmc_107) := rfl
  refine pw_ld E (pc' := 1) (st' := [.ref 40]) rfl (fun _ => rfl) ?_
  refine pw_getI2 I E (c := 24) (k := 4) (pc' := 4) rfl rfl rfl rfl rfl rfl (fun hf1a hf1b => ?_)
  refine pw_iret E rfl ?_
  exact ⟨rfl, ⟨_, rfl, by omega, by omega, by omega⟩⟩
set_option maxHeartbeats 4000000 in
theorem cm_110_x24 {X : List (Nat × List Value)} {d : Nat} {h : pm_H} (hd : 1 ≤ d) (I : pw_I h)  : pw X d h 110 0 [some (.ref 40)] [] (fun h' v => h = h' ∧ ∃ a : Int, v = .inl (some (pw_i a)) ∧ (-2147483648) ≤ a ∧ a ≤ 2147483647 ∧ (a = pw_g h 24 5)) := by
  have E : pm_ent 110 = some (1, 1, 9, 0, pmc_110) := rfl
  refine pw_ld E (pc' := 1) (st' := [.ref 40]) rfl (fun _ => rfl) ?_
  refine pw_getI2 I E (c := 24) (k := 5) (pc' := 4) rfl rfl rfl rfl rfl rfl (fun hf1a hf1b => ?_)
  refine pw_iret E rfl ?_
  exact ⟨rfl, ⟨_, rfl, by omega, by omega, by omega⟩⟩
set_option maxHeartbeats 4000000 in
theorem cm_55_x {X : List (Nat × List Value)} {d : Nat} {h : pm_H} (hd : 2 ≤ d) (I : pw_I h) (hX : pw_Xk X) (K V : Int) (hp0 : px_TR K V h) (hp1 : pw_Xs X) : pw X d h 55 0 [some (.ref 40), none] [] (fun h' v => h = h' ∧ ∃ a : Int, v = .inl (some (pw_i a)) ∧ (-1) ≤ a ∧ a ≤ 7 ∧ (a = pt_opn K V)) := by
  have E : pm_ent 55 = some (1, 2, 5, 0, pmc_55) := rfl
  have hTR := hp0
  have hXs := hp1
  have hk := hp0.k
  have w11 := px_wn11 K V
  have wo := px_opnD K V
  refine pw_ld E (pc' := 1) (st' := [.ref 40]) rfl (fun _ => rfl) ?_
  refine pw_ld E (pc' := 3) (st' := [.ref 11, .ref 40]) rfl (fun _ => rfl) ?_
  obtain ⟨f1l, f1h, -⟩ := pw_obj (c := 24) I rfl
  refine pw_call (m' := 108) (As := [.ref 40, .ref 11]) (rest := []) (ls'' := [some (.ref 40), some (.ref 11), none, none, none, none, none]) (Nat.le_trans (by decide) hd) E rfl (fun _ => pw_iV rfl rfl rfl rfl (pw_cellI f1h rfl)) (rfl : pm_ent 108 = some (2, 7, 9, 0, pmc_108)) rfl rfl (cm_108_w (pw_dp hd (by decide)) I hX 11 (by omega) (by omega) K V hTR hXs (by decide)) ?_
  rintro u3 v2 ⟨rfl, x4, rfl, hx4a, hx4b, hx4r⟩
  refine ⟨_, rfl, ?_⟩
  show pw X d h 55 6 [some (.ref 40), none] [pw_i x4] _
  change x4 = px_wn 11 K V at hx4r
  refine pw_istn E (pc' := 7) (ls' := [some (.ref 40), some (pw_i x4)]) rfl rfl rfl rfl ?_
  refine pw_ld E (pc' := 8) (st' := [pw_i x4]) rfl (fun _ => rfl) ?_
  refine pw_ld E (pc' := 9) (st' := [pw_i ((-1)), pw_i x4]) rfl (fun _ => rfl) ?_
  refine pw_if2 E (pc' := 22) rfl (by decide) (by omega) (by omega) (by decide) (by decide) ?_ ?_
  · intro hc5
    change x4 = ((-1) : Int) at hc5
    refine pw_ld E (pc' := 23) (st' := [.ref 40]) rfl (fun _ => rfl) ?_
    obtain ⟨f6l, f6h, -⟩ := pw_obj (c := 24) I rfl
    refine pw_call (m' := 107) (As := [.ref 40]) (rest := []) (ls'' := [some (.ref 40)]) (Nat.le_trans (by decide) hd) E rfl (fun _ => pw_iV rfl rfl rfl rfl (pw_cellI f6h rfl)) (rfl : pm_ent 107 = some (1, 1, 9, 0, pmc_107)) rfl rfl (cm_107_x24 (pw_dp hd (by decide)) I ) ?_
    rintro u8 v7 ⟨rfl, x9, rfl, hx9a, hx9b, hx9r⟩
    refine ⟨_, rfl, ?_⟩
    show pw X d h 55 26 [some (.ref 40), some (pw_i x4)] [pw_i x9] _
    change x9 = pw_g h 24 4 at hx9r
    refine pw_ld E (pc' := 27) (st' := [pw_i 3, pw_i x9]) rfl (fun _ => rfl) ?_
    refine pw_if2 E (pc' := 32) rfl (by decide) (by omega) (by omega) (by decide) (by decide) ?_ ?_
    · intro hc10
      change x9 = (3 : Int) at hc10
      refine pw_ld E (pc' := 33) (st' := [.ref 40]) rfl (fun _ => rfl) ?_
      obtain ⟨f11l, f11h, -⟩ := pw_obj (c := 24) I rfl
      refine pw_call (m' := 110) (As := [.ref 40]) (rest := []) (ls'' := [some (.ref 40)]) (Nat.le_trans (by decide) hd) E rfl (fun _ => pw_iV rfl rfl rfl rfl (pw_cellI f11h rfl)) (rfl : pm_ent 110 = some (1, 1, 9, 0, pmc_110)) rfl rfl (cm_110_x24 (pw_dp hd (by decide)) I ) ?_
      rintro u13 v12 ⟨rfl, x14, rfl, hx14a, hx14b, hx14r⟩
      refine ⟨_, rfl, ?_⟩
      show pw X d h 55 36 [some (.ref 40), some (pw_i x4)] [pw_i x14] _
      change x14 = pw_g h 24 5 at hx14r
      rcases (by omega : x14 = 42 ∨ x14 = 43 ∨ x14 = 45 ∨ x14 = 60 ∨ x14 = 61 ∨ (x14 ≠ 42 ∧ x14 ≠ 43 ∧ x14 ≠ 45 ∧ x14 ≠ 60 ∧ x14 ≠ 61)) with hs15 | hs15 | hs15 | hs15 | hs15 | hs15
      · refine pw_lsw (o := 61) E (pc' := 97) rfl (by omega) (by omega) rfl (by rw [hs15]; rfl) (by decide) ?_
        refine pw_bip E (pc' := 99) rfl rfl (by decide) ?_
        refine pw_iret E rfl ?_
        exact ⟨rfl, ⟨_, rfl, by omega, by omega, by omega⟩⟩
      · refine pw_lsw (o := 56) E (pc' := 92) rfl (by omega) (by omega) rfl (by rw [hs15]; rfl) (by decide) ?_
        refine pw_ld E (pc' := 93) (st' := [pw_i 5]) rfl (fun _ => rfl) ?_
        refine pw_iret E rfl ?_
        exact ⟨rfl, ⟨_, rfl, by omega, by omega, by omega⟩⟩
      · refine pw_lsw (o := 58) E (pc' := 94) rfl (by omega) (by omega) rfl (by rw [hs15]; rfl) (by decide) ?_
        refine pw_bip E (pc' := 96) rfl rfl (by decide) ?_
        refine pw_iret E rfl ?_
        exact ⟨rfl, ⟨_, rfl, by omega, by omega, by omega⟩⟩
      · refine pw_lsw (o := 52) E (pc' := 88) rfl (by omega) (by omega) rfl (by rw [hs15]; rfl) (by decide) ?_
        refine pw_ld E (pc' := 89) (st' := [pw_i 3]) rfl (fun _ => rfl) ?_
        refine pw_iret E rfl ?_
        exact ⟨rfl, ⟨_, rfl, by omega, by omega, by omega⟩⟩
      · refine pw_lsw (o := 54) E (pc' := 90) rfl (by omega) (by omega) rfl (by rw [hs15]; rfl) (by decide) ?_
        refine pw_ld E (pc' := 91) (st' := [pw_i 4]) rfl (fun _ => rfl) ?_
        refine pw_iret E rfl ?_
        exact ⟨rfl, ⟨_, rfl, by omega, by omega, by omega⟩⟩
      · refine pw_lsw (o := 64) E (pc' := 100) rfl (by omega) (by omega) rfl (by simp only [Op.lookupswitch.offset]; repeat rw [if_neg (by omega)]) (by decide) ?_
        refine pw_ld E (pc' := 101) (st' := [pw_i ((-1))]) rfl (fun _ => rfl) ?_
        refine pw_iret E rfl ?_
        exact ⟨rfl, ⟨_, rfl, by omega, by omega, by omega⟩⟩
    · intro hc16
      change ¬ (x9 = (3 : Int)) at hc16
      refine pw_ld E (pc' := 31) (st' := [pw_i ((-1))]) rfl (fun _ => rfl) ?_
      refine pw_iret E rfl ?_
      exact ⟨rfl, ⟨_, rfl, by omega, by omega, by omega⟩⟩
  · intro hc17
    change ¬ (x4 = ((-1) : Int)) at hc17
    refine pw_ld E (pc' := 13) (st' := [pw_i x4]) rfl (fun _ => rfl) ?_
    refine pw_if E (pc' := 20) rfl (by decide) (by omega) (by omega) ?_ ?_
    · intro hc18
      change x4 ≠ (0 : Int) at hc18
      refine pw_ld E (pc' := 21) (st' := [pw_i 2]) rfl (fun _ => rfl) ?_
      refine pw_iret E rfl ?_
      exact ⟨rfl, ⟨_, rfl, by omega, by omega, by omega⟩⟩
    · intro hc19
      change ¬ (x4 ≠ (0 : Int)) at hc19
      refine pw_ld E (pc' := 17) (st' := [pw_i 1]) rfl (fun _ => rfl) ?_
      refine pw_goto E (pc' := 21) rfl (by decide) ?_
      refine pw_iret E rfl ?_
      exact ⟨rfl, ⟨_, rfl, by omega, by omega, by omega⟩⟩
set_option maxHeartbeats 4000000 in
theorem cm_51_x26 {X : List (Nat × List Value)} {d : Nat} {h : pm_H} (hd : 3 ≤ d) (I : pw_I h) (st T : Int) (hp0 : pw_Xr X) (hp1 : px_IN 26 h st T) (hp2 : T ≤ 1000) : pw X d h 51 0 [some (.ref 42), some (.ref 46)] [] (fun h' v => pw_I h' ∧ pw_E [26, 27, 30, 33, 36] h h' ∧ ∃ a : Int, v = .inl (some (pw_i a)) ∧ 0 ≤ a ∧ a ≤ 1 ∧ ((a = 1 ∧ 0 < pw_g h 26 6) ∨ (a = 0 ∧ pw_g h 26 6 ≤ 0 ∧ px_EN 26 st T h h' (1, (pt_rl 1 (px_S 26 h) (px_C h st)).1, pw_g h 26 5, pw_g h 26 6, (pt_rl 1 (px_S 26 h) (px_C h st)).2)))) := by
  have E : pm_ent 51 = some (2, 2, 5, 0, pmc_51) := rfl
  have E0 : pw_E [26, 27, 30, 33, 36] h h := pw_E.rf _ _
  have hXr := hp0
  have hIN := hp1
  obtain ⟨i1, i2, i3, i4, i5, i6, i7, i8⟩ := hp1
  refine pw_ld E (pc' := 1) (st' := [.ref 42]) rfl (fun _ => rfl) ?_
  refine pw_getI2 I E (c := 26) (k := 6) (pc' := 4) rfl rfl rfl rfl rfl rfl (fun hf1a hf1b => ?_)
  refine pw_if E (pc' := 9) rfl (by decide) (by omega) (by omega) ?_ ?_
  · intro hc2
    change pw_g h 26 6 ≤ (0 : Int) at hc2
    refine pw_ld E (pc' := 10) (st' := [.ref 42]) rfl (fun _ => rfl) ?_
    refine pw_ld E (pc' := 11) (st' := [pw_i 1, .ref 42]) rfl (fun _ => rfl) ?_
    refine pw_ld E (pc' := 12) (st' := [.ref 46, pw_i 1, .ref 42]) rfl (fun _ => rfl) ?_
    obtain ⟨f3l, f3h, -⟩ := pw_obj (c := 26) I rfl
    refine pw_call (m' := 52) (As := [.ref 42, pw_i 1, .ref 46]) (rest := []) (ls'' := [some (.ref 42), some (pw_i 1), some (.ref 46)]) (Nat.le_trans (by decide) hd) E rfl (fun _ => pw_iV rfl rfl rfl rfl (pw_cellI f3h rfl)) (rfl : pm_ent 52 = some (3, 3, 5, 4, pmc_52)) rfl rfl (cm_52_x26 (pw_dp hd (by decide)) I (1) (by omega) (by omega) st hXr (by omega) (by omega) (by omega) i7) ?_
    rintro h4 v5 ⟨h4I, h4E, hqrl, rfl⟩
    refine ⟨_, rfl, ?_⟩
    have h4F := E0.tr (h4E.wk (W' := [26, 27, 30, 33, 36]) (by first | rfl | simp))
    show pw X d h4 51 15 [some (.ref 42), some (.ref 46)] [] _
    refine pw_ld E (pc' := 16) (st' := [.ref 42]) rfl (fun _ => rfl) ?_
    refine pw_ld E (pc' := 17) (st' := [pw_i 0, .ref 42]) rfl (fun _ => rfl) ?_
    refine pw_putI h4I E (c := 26) (k := 7) (pc' := 20) rfl rfl rfl rfl (by omega) (by omega) (by omega) (by omega) rfl rfl ?_
    intro h6I h6E
    generalize h6w : pw_w h4 26 7 (pw_i 0) = h6 at h6I h6E ⊢
    have h6F := h4F.tr (h6E.wk (W' := [26, 27, 30, 33, 36]) (by first | rfl | simp))
    refine pw_ld E (pc' := 21) (st' := [pw_i 0]) rfl (fun _ => rfl) ?_
    refine pw_iret E rfl ?_
    have z7 : pw_g h6 26 7 = 0 := by rw [← h6w]; exact pw_g_eq (c := 26) (k := 7) h4I rfl rfl (by omega) (by omega)
    have z8 : pw_g h6 26 8 = pw_g h4 26 8 := by rw [← h6w]; exact pw_g_ne (by omega)
    have z1 : pw_g h6 30 1 = pw_g h4 30 1 := by rw [← h6w]; exact pw_g_ne (by omega)
    have zC : px_C h6 st = px_C h4 st := px_C.eq z1 (fun j => by rw [← h6w]; exact pw_g_ne (by omega))
    have zB : px_B 26 h h6 := hqrl.2.2.1.eq z1 (fun j => by rw [← h6w]; exact pw_g_ne (by omega)) (fun j => by rw [← h6w]; exact pw_g_ne (by omega))
    have q2 := hqrl.2.1
    have q8 := hqrl.2.2.2 8 (by decide)
    have r4 := (pw_gI (c := 26) (k := 4) h4I rfl rfl).1
    exact ⟨h6I, h6F, ⟨_, rfl, by omega, by omega, Or.inr ⟨rfl, by omega, ⟨(by rw [zC, hqrl.1]; try rfl), zB, z7, by omega, by omega⟩⟩⟩⟩
  · intro hc7
    change ¬ (pw_g h 26 6 ≤ (0 : Int)) at hc7
    refine pw_ld E (pc' := 8) (st' := [pw_i 1]) rfl (fun _ => rfl) ?_
    refine pw_iret E rfl ?_
    exact ⟨I, E0, ⟨_, rfl, by omega, by omega, Or.inl ⟨rfl, by omega⟩⟩⟩
set_option maxHeartbeats 4000000 in
theorem cm_54_x26 {X : List (Nat × List Value)} {d : Nat} {h : pm_H} (hd : 3 ≤ d) (I : pw_I h) (st T : Int) (hp0 : pw_Xr X) (hp1 : px_IN 26 h st T) (hp2 : T ≤ 1000) (hp3 : pt_n8 (px_S 26 h)) : pw X d h 54 0 [some (.ref 42), some (.ref 46)] [] (fun h' v => pw_I h' ∧ pw_E [26, 27, 30, 33, 36] h h' ∧ ∃ a : Int, v = .inl (some (pw_i a)) ∧ 0 ≤ a ∧ a ≤ 1 ∧ ((a = 1 ∧ pw_g h 26 6 ≤ 0) ∨ (a = 0 ∧ 0 < pw_g h 26 6 ∧ px_PO 26 st T h h' 1 (pt_fin (pt_rl 1 (px_S 26 h) (px_C h st)).1.tail (pw_g h 26 5 - 1) (pw_g h 26 6 - 1) (pt_rl 1 (px_S 26 h) (px_C h st)).2)))) := by
  have E : pm_ent 54 = some (2, 2, 5, 0, pmc_54) := rfl
  have E0 : pw_E [26, 27, 30, 33, 36] h h := pw_E.rf _ _
  have hXr := hp0
  have hIN := hp1
  obtain ⟨i1, i2, i3, i4, i5, i6, i7, i8⟩ := hp1
  have hoB := px_dcB (px_S 26 h)
  refine pw_ld E (pc' := 1) (st' := [.ref 42]) rfl (fun _ => rfl) ?_
  refine pw_getI2 I E (c := 26) (k := 6) (pc' := 4) rfl rfl rfl rfl rfl rfl (fun hf1a hf1b => ?_)
  refine pw_if E (pc' := 9) rfl (by decide) (by omega) (by omega) ?_ ?_
  · intro hc2
    change pw_g h 26 6 ≠ (0 : Int) at hc2
    refine pw_ld E (pc' := 10) (st' := [.ref 42]) rfl (fun _ => rfl) ?_
    refine pw_ld E (pc' := 11) (st' := [pw_i 1, .ref 42]) rfl (fun _ => rfl) ?_
    refine pw_ld E (pc' := 12) (st' := [.ref 46, pw_i 1, .ref 42]) rfl (fun _ => rfl) ?_
    obtain ⟨f3l, f3h, -⟩ := pw_obj (c := 26) I rfl
    refine pw_call (m' := 52) (As := [.ref 42, pw_i 1, .ref 46]) (rest := []) (ls'' := [some (.ref 42), some (pw_i 1), some (.ref 46)]) (Nat.le_trans (by decide) hd) E rfl (fun _ => pw_iV rfl rfl rfl rfl (pw_cellI f3h rfl)) (rfl : pm_ent 52 = some (3, 3, 5, 4, pmc_52)) rfl rfl (cm_52_x26 (pw_dp hd (by decide)) I (1) (by omega) (by omega) st hXr (by omega) (by omega) (by omega) i7) ?_
    rintro h4 v5 ⟨h4I, h4E, hqrl, rfl⟩
    refine ⟨_, rfl, ?_⟩
    have h4F := E0.tr (h4E.wk (W' := [26, 27, 30, 33, 36]) (by first | rfl | simp))
    show pw X d h4 54 15 [some (.ref 42), some (.ref 46)] [] _
    obtain ⟨T9, u1, u2, u3, u4⟩ := px_clT (c := px_C h st) i1 hp3 (by omega)
    rw [hqrl.1] at u1
    change px_S 26 h4 = 9 :: T9 at u1
    have ul := px_S_len (c := 26) (h := h4)
    rw [u1, List.length_cons] at ul
    have uB := px_dcB T9
    have k5 := hqrl.2.2.2 5 (by decide)
    have k6 := hqrl.2.2.2 6 (by decide)
    have k8 := hqrl.2.2.2 8 (by decide)
    have hIN1 := (hIN.rl hqrl (by decide)).1
    refine pw_ld E (pc' := 16) (st' := [.ref 42]) rfl (fun _ => rfl) ?_
    refine pw_ld E (pc' := 17) (st' := [.ref 42, .ref 42]) rfl (fun _ => rfl) ?_
    refine pw_getI2 h4I E (c := 26) (k := 4) (pc' := 20) rfl rfl rfl rfl rfl rfl (fun hf6a hf6b => ?_)
    refine pw_ld E (pc' := 21) (st' := [pw_i 1, pw_i (pw_g h4 26 4), .ref 42]) rfl (fun _ => rfl) ?_
    refine pw_sub E (pc' := 22) rfl rfl ?_
    refine pw_putI h4I E (c := 26) (k := 4) (pc' := 25) rfl rfl rfl rfl (by omega) (by omega) (by omega) (by omega) rfl rfl ?_
    intro h7I h7E
    generalize h7w : pw_w h4 26 4 (pw_i ((pw_g h4 26 4) - 1)) = h7 at h7I h7E ⊢
    have h7F := h4F.tr (h7E.wk (W' := [26, 27, 30, 33, 36]) (by first | rfl | simp))
    refine pw_ld E (pc' := 26) (st' := [.ref 42]) rfl (fun _ => rfl) ?_
    refine pw_ld E (pc' := 27) (st' := [.ref 42, .ref 42]) rfl (fun _ => rfl) ?_
    have f5a : pw_g h7 26 5 = pw_g h4 26 5 := by rw [← h7w]; exact pw_g_ne (by omega)
    refine pw_getI2 h7I E (c := 26) (k := 5) (pc' := 30) rfl rfl rfl rfl rfl rfl (fun hf8a hf8b => ?_)
    refine pw_ld E (pc' := 31) (st' := [pw_i 1, pw_i (pw_g h7 26 5), .ref 42]) rfl (fun _ => rfl) ?_
    refine pw_sub E (pc' := 32) rfl rfl ?_
    refine pw_putI h7I E (c := 26) (k := 5) (pc' := 35) rfl rfl rfl rfl (by omega) (by omega) (by omega) (by omega) rfl rfl ?_
    intro h9I h9E
    generalize h9w : pw_w h7 26 5 (pw_i ((pw_g h7 26 5) - 1)) = h9 at h9I h9E ⊢
    have h9F := h7F.tr (h9E.wk (W' := [26, 27, 30, 33, 36]) (by first | rfl | simp))
    refine pw_ld E (pc' := 36) (st' := [.ref 42]) rfl (fun _ => rfl) ?_
    refine pw_ld E (pc' := 37) (st' := [.ref 42, .ref 42]) rfl (fun _ => rfl) ?_
    have f6a : pw_g h9 26 6 = pw_g h4 26 6 := by rw [← h9w, pw_g_ne (by omega), ← h7w]; exact pw_g_ne (by omega)
    refine pw_getI2 h9I E (c := 26) (k := 6) (pc' := 40) rfl rfl rfl rfl rfl rfl (fun hf10a hf10b => ?_)
    refine pw_ld E (pc' := 41) (st' := [pw_i 1, pw_i (pw_g h9 26 6), .ref 42]) rfl (fun _ => rfl) ?_
    refine pw_sub E (pc' := 42) rfl rfl ?_
    refine pw_putI h9I E (c := 26) (k := 6) (pc' := 45) rfl rfl rfl rfl (by omega) (by omega) (by omega) (by omega) rfl rfl ?_
    intro h11I h11E
    generalize h11w : pw_w h9 26 6 (pw_i ((pw_g h9 26 6) - 1)) = h11 at h11I h11E ⊢
    have h11F := h9F.tr (h11E.wk (W' := [26, 27, 30, 33, 36]) (by first | rfl | simp))
    have f4 : pw_g h11 26 4 = pw_g h4 26 4 - 1 := by rw [← h11w, pw_g_ne (by omega), ← h9w, pw_g_ne (by omega), ← h7w]; exact pw_g_eq (c := 26) (k := 4) h4I rfl rfl (by omega) (by omega)
    have f5 : pw_g h11 26 5 = pw_g h4 26 5 - 1 := by rw [← h11w, pw_g_ne (by omega), ← f5a, ← h9w]; exact pw_g_eq (c := 26) (k := 5) h7I rfl rfl (by omega) (by omega)
    have f6 : pw_g h11 26 6 = pw_g h4 26 6 - 1 := by rw [← f6a, ← h11w]; exact pw_g_eq (c := 26) (k := 6) h9I rfl rfl (by omega) (by omega)
    have f8 : pw_g h11 26 8 = pw_g h4 26 8 := by rw [← h11w, pw_g_ne (by omega), ← h9w, pw_g_ne (by omega), ← h7w]; exact pw_g_ne (by omega)
    have f30 : pw_g h11 30 1 = pw_g h4 30 1 := by rw [← h11w, pw_g_ne (by omega), ← h9w, pw_g_ne (by omega), ← h7w]; exact pw_g_ne (by omega)
    have fw : ∀ j : Nat, pw_g h11 27 j = pw_g h4 27 j := fun j => by rw [← h11w, pw_g_ne (by omega), ← h9w, pw_g_ne (by omega), ← h7w]; exact pw_g_ne (by omega)
    have f33 : ∀ j : Nat, pw_g h11 33 j = pw_g h4 33 j := fun j => by rw [← h11w, pw_g_ne (by omega), ← h9w, pw_g_ne (by omega), ← h7w]; exact pw_g_ne (by omega)
    have f36 : ∀ j : Nat, pw_g h11 36 j = pw_g h4 36 j := fun j => by rw [← h11w, pw_g_ne (by omega), ← h9w, pw_g_ne (by omega), ← h7w]; exact pw_g_ne (by omega)
    have hS4 : px_S 26 h11 = T9 := px_S.pop (c := 26) (h := h4) (by omega) f4 fw u1
    have hC4 : px_C h11 st = px_C h4 st := px_C.eq f30 f36
    obtain ⟨-, v2, v3, v4, v5, v6, v7, v8⟩ := hIN1
    have hIN4 : px_IN 26 h11 st T := ⟨by rw [hS4]; exact u4, by rw [hS4]; omega, by rw [hS4]; omega, by omega, by omega, by omega, by rw [f33, f8, f30]; exact v7, by omega⟩
    have hB4 : px_B 26 h h11 := hqrl.2.2.1.eq f30 f36 f33
    have hIN4c := hIN4
    obtain ⟨j1, j2, j3, j4, j5, j6, j7, j8⟩ := hIN4c
    refine pw_ld E (pc' := 46) (st' := [.ref 42]) rfl (fun _ => rfl) ?_
    refine pw_ld E (pc' := 47) (st' := [.ref 46, .ref 42]) rfl (fun _ => rfl) ?_
    have he12 : pw_g h11 26 4 = pw_g h9 26 4 := by rw [← h11w]; exact pw_g_ne (by omega)
    have he13 : pw_g h9 26 4 = pw_g h7 26 4 := by rw [← h9w]; exact pw_g_ne (by omega)
    have he14 : pw_g h7 26 4 = (pw_g h4 26 4) - 1 := by rw [← h7w]; exact pw_g_eq (c := 26) (k := 4) h4I rfl rfl (by omega) (by omega)
    have he15 : pw_g h11 26 5 = pw_g h9 26 5 := by rw [← h11w]; exact pw_g_ne (by omega)
    have he16 : pw_g h9 26 5 = (pw_g h7 26 5) - 1 := by rw [← h9w]; exact pw_g_eq (c := 26) (k := 5) h7I rfl rfl (by omega) (by omega)
    obtain ⟨f17l, f17h, -⟩ := pw_obj (c := 26) h11I rfl
    refine pw_call (m' := 49) (As := [.ref 42, .ref 46]) (rest := []) (ls'' := [some (.ref 42), some (.ref 46)]) (Nat.le_trans (by decide) hd) E rfl (fun _ => pw_iV rfl rfl rfl rfl (pw_cellI f17h rfl)) (rfl : pm_ent 49 = some (2, 2, 5, 4, pmc_49)) rfl rfl (cm_49_x26 (pw_dp hd (by decide)) h11I st (by omega) (by omega) (by omega) j7 j2 (by omega)) ?_
    rintro h18 v19 ⟨h18I, h18E, hqep, rfl⟩
    refine ⟨_, rfl, ?_⟩
    have h18F := h11F.tr (h18E.wk (W' := [26, 27, 30, 33, 36]) (by first | rfl | simp))
    show pw X d h18 54 50 [some (.ref 42), some (.ref 46)] [] _
    refine pw_ld E (pc' := 51) (st' := [pw_i 0]) rfl (fun _ => rfl) ?_
    refine pw_iret E rfl ?_
    obtain ⟨hIN5, n5, e56, e58⟩ := hIN4.ep hqep
    have q7 := hqep.2.2.2.1
    have hst : (1, px_S 26 h18, pw_g h18 26 5, pw_g h18 26 6, px_C h18 st) = pt_fin (pt_rl 1 (px_S 26 h) (px_C h st)).1.tail (pw_g h 26 5 - 1) (pw_g h 26 6 - 1) (pt_rl 1 (px_S 26 h) (px_C h st)).2 := by
      rw [hqrl.1]
      show _ = pt_fin (px_S 26 h4).tail (pw_g h 26 5 - 1) (pw_g h 26 6 - 1) (px_C h4 st)
      have w := hqep.1
      rw [hS4, hC4, show pw_g h11 26 5 = pw_g h 26 5 - 1 by omega] at w
      rw [u1]
      show _ = pt_fin T9 (pw_g h 26 5 - 1) (pw_g h 26 6 - 1) (px_C h4 st)
      unfold pt_fin
      rw [w, show pw_g h18 26 6 = pw_g h 26 6 - 1 by omega]
    exact ⟨h18I, h18F, ⟨_, rfl, by omega, by omega, Or.inr ⟨rfl, by omega, ⟨hIN5, hst, by omega, fun _ => n5, hB4.tr (by omega) hqep.2.2.1, by omega⟩⟩⟩⟩
  · intro hc20
    change ¬ (pw_g h 26 6 ≠ (0 : Int)) at hc20
    refine pw_ld E (pc' := 8) (st' := [pw_i 1]) rfl (fun _ => rfl) ?_
    refine pw_iret E rfl ?_
    exact ⟨I, E0, ⟨_, rfl, by omega, by omega, Or.inl ⟨rfl, by omega⟩⟩⟩
set_option maxHeartbeats 4000000 in
theorem cm_50_x26 {X : List (Nat × List Value)} {d : Nat} {h : pm_H} (hd : 4 ≤ d) (I : pw_I h) (hX : pw_Xk X) (K V st T : Int) (hp0 : pw_Xr X) (hp1 : px_TR K V h) (hp2 : pw_Xs X) (hp3 : px_IN 26 h st T) (hp4 : T ≤ 999) (hp5 : pt_n8 (px_S 26 h)) : pw X d h 50 0 [some (.ref 42), some (.ref 40), some (.ref 46), none, none] [] (fun h' v => pw_I h' ∧ pw_E [26, 27, 30, 33, 36] h h' ∧ ∃ a : Int, v = .inl (some (pw_i a)) ∧ 0 ≤ a ∧ a ≤ 1 ∧ ((a ≠ 0 ∧ (pt_es (pt_FF 0) K V (px_s 26 h st 1)).1 = a) ∨ (a = 0 ∧ (pt_es (pt_FF 0) K V (px_s 26 h st 1)).1 = 0 ∧ px_PO 26 st (T + 1) h h' (pt_es (pt_FF 0) K V (px_s 26 h st 1)).2.1 (pt_es (pt_FF 0) K V (px_s 26 h st 1)).2) ∨ (a = 0 ∧ (pt_es (pt_FF 0) K V (px_s 26 h st 1)).1 = 9 ∧ px_EN 26 st T h h' (pt_es (pt_FF 0) K V (px_s 26 h st 1)).2))) := by
  have E : pm_ent 50 = some (3, 5, 5, 0, pmc_50) := rfl
  have E0 : pw_E [26, 27, 30, 33, 36] h h := pw_E.rf _ _
  have hXr := hp0
  have hTR := hp1
  have hXs := hp2
  have hIN := hp3
  have hn8 := hp5
  have hk := hp1.k
  have wo := px_opnD K V
  have hoB := px_dcB (px_S 26 h)
  obtain ⟨i1, i2, i3, i4, i5, i6, i7, i8⟩ := hp3
  refine pw_ld E (pc' := 1) (st' := [.ref 40]) rfl (fun _ => rfl) ?_
  refine pw_bip E (pc' := 3) rfl rfl (by decide) ?_
  obtain ⟨f1l, f1h, -⟩ := pw_obj (c := 24) I rfl
  refine pw_call (m' := 109) (As := [.ref 40, pw_i 59]) (rest := []) (ls'' := [some (.ref 40), some (pw_i 59)]) (Nat.le_trans (by decide) hd) E rfl (fun _ => pw_iV rfl rfl rfl rfl (pw_cellI f1h rfl)) (rfl : pm_ent 109 = some (2, 2, 9, 1, pmc_109)) rfl rfl (cm_109_x24 (pw_dp hd (by decide)) I (59) (by omega) (by omega)) ?_
  rintro u3 v2 ⟨rfl, x4, rfl, hx4a, hx4b, hx4r⟩
  refine ⟨_, rfl, ?_⟩
  show pw X d h 50 6 [some (.ref 42), some (.ref 40), some (.ref 46), none, none] [pw_i x4] _
  change (x4 = 1 ∧ pw_g h 24 4 = 3 ∧ pw_g h 24 5 = 59) ∨ (x4 = 0 ∧ ¬ (pw_g h 24 4 = 3 ∧ pw_g h 24 5 = 59)) at hx4r
  rcases (by omega : x4 = 1 ∨ x4 = 0) with hb5 | hb5
  · skip
    refine pw_if E (pc' := 15) rfl (by decide) (by omega) (by omega) ?_ ?_
    · intro hc6
      change x4 = (0 : Int) at hc6
      exfalso; omega
    · intro hc7
      change ¬ (x4 = (0 : Int)) at hc7
      refine pw_ld E (pc' := 10) (st' := [.ref 42]) rfl (fun _ => rfl) ?_
      refine pw_ld E (pc' := 11) (st' := [.ref 46, .ref 42]) rfl (fun _ => rfl) ?_
      obtain ⟨f8l, f8h, -⟩ := pw_obj (c := 26) I rfl
      refine pw_call (m' := 51) (As := [.ref 42, .ref 46]) (rest := []) (ls'' := [some (.ref 42), some (.ref 46)]) (Nat.le_trans (by decide) hd) E rfl (fun _ => pw_iV rfl rfl rfl rfl (pw_cellI f8h rfl)) (rfl : pm_ent 51 = some (2, 2, 5, 0, pmc_51)) rfl rfl (cm_51_x26 (pw_dp hd (by decide)) I st T hXr hIN (by omega)) ?_
      rintro h9 v10 ⟨h9I, h9E, x11, rfl, hx11a, hx11b, hx11r⟩
      refine ⟨_, rfl, ?_⟩
      have h9F := E0.tr (h9E.wk (W' := [26, 27, 30, 33, 36]) (by first | rfl | simp))
      show pw X d h9 50 14 [some (.ref 42), some (.ref 40), some (.ref 46), none, none] [pw_i x11] _
      change (x11 = 1 ∧ 0 < pw_g h 26 6) ∨ (x11 = 0 ∧ pw_g h 26 6 ≤ 0 ∧ px_EN 26 st T h h9 (1, (pt_rl 1 (px_S 26 h) (px_C h st)).1, pw_g h 26 5, pw_g h 26 6, (pt_rl 1 (px_S 26 h) (px_C h st)).2)) at hx11r
      refine pw_iret E rfl ?_
      rcases hx11r with ⟨y1, y2⟩ | ⟨y1, y2, y3⟩
      · exact ⟨h9I, h9F, ⟨_, rfl, by omega, by omega, Or.inl ⟨by omega, by rw [px_s, px_erE1 (by omega) (by omega) y2]; exact y1.symm⟩⟩⟩
      · exact ⟨h9I, h9F, ⟨_, rfl, by omega, by omega, Or.inr (Or.inr ⟨y1, (by rw [px_s, px_erE0 (by omega) (by omega) (by omega)]; try rfl), (by rw [px_s, px_erE0 (by omega) (by omega) (by omega)]; exact y3)⟩)⟩⟩
  · skip
    refine pw_if E (pc' := 15) rfl (by decide) (by omega) (by omega) ?_ ?_
    · intro hc13
      change x4 = (0 : Int) at hc13
      refine pw_ld E (pc' := 16) (st' := [.ref 40]) rfl (fun _ => rfl) ?_
      refine pw_bip E (pc' := 18) rfl rfl (by decide) ?_
      obtain ⟨f14l, f14h, -⟩ := pw_obj (c := 24) I rfl
      refine pw_call (m' := 109) (As := [.ref 40, pw_i 41]) (rest := []) (ls'' := [some (.ref 40), some (pw_i 41)]) (Nat.le_trans (by decide) hd) E rfl (fun _ => pw_iV rfl rfl rfl rfl (pw_cellI f14h rfl)) (rfl : pm_ent 109 = some (2, 2, 9, 1, pmc_109)) rfl rfl (cm_109_x24 (pw_dp hd (by decide)) I (41) (by omega) (by omega)) ?_
      rintro u16 v15 ⟨rfl, x17, rfl, hx17a, hx17b, hx17r⟩
      refine ⟨_, rfl, ?_⟩
      show pw X d h 50 21 [some (.ref 42), some (.ref 40), some (.ref 46), none, none] [pw_i x17] _
      change (x17 = 1 ∧ pw_g h 24 4 = 3 ∧ pw_g h 24 5 = 41) ∨ (x17 = 0 ∧ ¬ (pw_g h 24 4 = 3 ∧ pw_g h 24 5 = 41)) at hx17r
      rcases (by omega : x17 = 1 ∨ x17 = 0) with hb18 | hb18
      · skip
        refine pw_if E (pc' := 30) rfl (by decide) (by omega) (by omega) ?_ ?_
        · intro hc19
          change x17 = (0 : Int) at hc19
          exfalso; omega
        · intro hc20
          change ¬ (x17 = (0 : Int)) at hc20
          refine pw_ld E (pc' := 25) (st' := [.ref 42]) rfl (fun _ => rfl) ?_
          refine pw_ld E (pc' := 26) (st' := [.ref 46, .ref 42]) rfl (fun _ => rfl) ?_
          obtain ⟨f21l, f21h, -⟩ := pw_obj (c := 26) I rfl
          refine pw_call (m' := 54) (As := [.ref 42, .ref 46]) (rest := []) (ls'' := [some (.ref 42), some (.ref 46)]) (Nat.le_trans (by decide) hd) E rfl (fun _ => pw_iV rfl rfl rfl rfl (pw_cellI f21h rfl)) (rfl : pm_ent 54 = some (2, 2, 5, 0, pmc_54)) rfl rfl (cm_54_x26 (pw_dp hd (by decide)) I st T hXr hIN (by omega) hn8) ?_
          rintro h22 v23 ⟨h22I, h22E, x24, rfl, hx24a, hx24b, hx24r⟩
          refine ⟨_, rfl, ?_⟩
          have h22F := E0.tr (h22E.wk (W' := [26, 27, 30, 33, 36]) (by first | rfl | simp))
          show pw X d h22 50 29 [some (.ref 42), some (.ref 40), some (.ref 46), none, none] [pw_i x24] _
          change (x24 = 1 ∧ pw_g h 26 6 ≤ 0) ∨ (x24 = 0 ∧ 0 < pw_g h 26 6 ∧ px_PO 26 st T h h22 1 (pt_fin (pt_rl 1 (px_S 26 h) (px_C h st)).1.tail (pw_g h 26 5 - 1) (pw_g h 26 6 - 1) (pt_rl 1 (px_S 26 h) (px_C h st)).2)) at hx24r
          refine pw_iret E rfl ?_
          rcases hx24r with ⟨y1, y2⟩ | ⟨y1, y2, y3⟩
          · exact ⟨h22I, h22F, ⟨_, rfl, by omega, by omega, Or.inl ⟨by omega, by rw [px_s, px_erC1 (by omega) (by omega) y2]; exact y1.symm⟩⟩⟩
          · have z := px_erC0 (F := pt_FF 0) (d := pw_g h 26 5) (S := px_S 26 h) (c := px_C h st) (show K = 3 by omega) (show V = 41 by omega) (show ¬ pw_g h 26 6 ≤ 0 by omega)
            obtain ⟨y31, y3b⟩ := y3
            exact ⟨h22I, h22F, ⟨_, rfl, by omega, by omega, Or.inr (Or.inl ⟨y1, (by rw [px_s, z]; try rfl), (by rw [px_s, z]; exact ⟨y31.wk (by omega), y3b⟩)⟩)⟩⟩
      · skip
        refine pw_if E (pc' := 30) rfl (by decide) (by omega) (by omega) ?_ ?_
        · intro hc26
          change x17 = (0 : Int) at hc26
          refine pw_ld E (pc' := 31) (st' := [.ref 40]) rfl (fun _ => rfl) ?_
          refine pw_call (m' := 55) (As := [.ref 40]) (rest := []) (ls'' := [some (.ref 40), none]) (Nat.le_trans (by decide) hd) E rfl (fun _ => pw_iS rfl rfl rfl) (rfl : pm_ent 55 = some (1, 2, 5, 0, pmc_55)) rfl rfl (cm_55_x (pw_dp hd (by decide)) I hX K V hTR hXs) ?_
          rintro u28 v27 ⟨rfl, x29, rfl, hx29a, hx29b, hx29r⟩
          refine ⟨_, rfl, ?_⟩
          show pw X d h 50 34 [some (.ref 42), some (.ref 40), some (.ref 46), none, none] [pw_i x29] _
          change x29 = pt_opn K V at hx29r
          refine pw_istn E (pc' := 35) (ls' := [some (.ref 42), some (.ref 40), some (.ref 46), some (pw_i x29), none]) rfl rfl rfl rfl ?_
          refine pw_ld E (pc' := 36) (st' := [pw_i x29]) rfl (fun _ => rfl) ?_
          refine pw_ld E (pc' := 37) (st' := [pw_i ((-1)), pw_i x29]) rfl (fun _ => rfl) ?_
          refine pw_if2 E (pc' := 42) rfl (by decide) (by omega) (by omega) (by decide) (by decide) ?_ ?_
          · intro hc30
            change x29 ≠ ((-1) : Int) at hc30
            refine pw_ld E (pc' := 45) (st' := [.ref 3]) rfl (fun _ => rfl) ?_
            refine pw_ld E (pc' := 46) (st' := [pw_i x29, .ref 3]) rfl (fun _ => rfl) ?_
            refine pw_xaldR E (pc' := 47) rfl hp0 (by omega) (by omega) rfl ?_
            have hrk31 := pw_rk_le x29
            refine pw_ist E (pc' := 49) (ls' := [some (.ref 42), some (.ref 40), some (.ref 46), some (pw_i x29), some (pw_i (pw_rk x29))]) rfl rfl rfl rfl ?_
            have hx0 := px_rkE (x := x29) (by omega) (by omega)
            have hx1 := pt_rkB x29
            have hx2 : 1 ≤ pt_rk x29 := by
              have w := (pt_opnB K V).resolve_left (by omega)
              rw [hx29r]; exact w
            refine pw_ld E (pc' := 51) (st' := [pw_i (pw_rk x29)]) rfl (fun _ => rfl) ?_
            refine pw_ld E (pc' := 52) (st' := [pw_i 2, pw_i (pw_rk x29)]) rfl (fun _ => rfl) ?_
            refine pw_if2 E (pc' := 71) rfl (by decide) (by omega) (by omega) (by decide) (by decide) ?_ ?_
            · intro hc32
              change pw_rk x29 ≠ (2 : Int) at hc32
              refine pw_ld E (pc' := 72) (st' := [.ref 42]) rfl (fun _ => rfl) ?_
              refine pw_ld E (pc' := 74) (st' := [pw_i (pw_rk x29), .ref 42]) rfl (fun _ => rfl) ?_
              refine pw_ld E (pc' := 75) (st' := [.ref 46, pw_i (pw_rk x29), .ref 42]) rfl (fun _ => rfl) ?_
              obtain ⟨f33l, f33h, -⟩ := pw_obj (c := 26) I rfl
              refine pw_call (m' := 52) (As := [.ref 42, pw_i (pw_rk x29), .ref 46]) (rest := []) (ls'' := [some (.ref 42), some (pw_i (pw_rk x29)), some (.ref 46)]) (Nat.le_trans (by decide) hd) E rfl (fun _ => pw_iV rfl rfl rfl rfl (pw_cellI f33h rfl)) (rfl : pm_ent 52 = some (3, 3, 5, 4, pmc_52)) rfl rfl (cm_52_x26 (pw_dp hd (by decide)) I (pw_rk x29) (by omega) (by omega) st hXr (by omega) (by omega) (by omega) i7) ?_
              rintro h34 v35 ⟨h34I, h34E, hqrl, rfl⟩
              refine ⟨_, rfl, ?_⟩
              have h34F := E0.tr (h34E.wk (W' := [26, 27, 30, 33, 36]) (by first | rfl | simp))
              show pw X d h34 50 78 [some (.ref 42), some (.ref 40), some (.ref 46), some (pw_i x29), some (pw_i (pw_rk x29))] [] _
              have hRA := hIN.rl hqrl (by omega)
              have hINA := hRA.1
              have hnA := hRA.2.1 hn8
              have htA := hRA.2.2
              have m4 := (pw_gI (c := 26) (k := 4) h34I rfl rfl).1
              have mR := hINA.room
              have l5 := hqrl.2.2.2 5 (by decide)
              have l6 := hqrl.2.2.2 6 (by decide)
              have l8 := hqrl.2.2.2 8 (by decide)
              have m5 : pw_g h34 26 5 = pw_g h 26 5 := by omega
              have m6 : pw_g h34 26 6 = pw_g h 26 6 := by omega
              have hrlA : pt_rl (pt_rk x29) (px_S 26 h) (px_C h st) = (px_S 26 h34, px_C h34 st) := by rw [← hx0]; exact hqrl.1
              have hB1 := hqrl.2.2.1
              refine pw_ld E (pc' := 79) (st' := [.ref 42]) rfl (fun _ => rfl) ?_
              refine pw_ld E (pc' := 80) (st' := [pw_i x29, .ref 42]) rfl (fun _ => rfl) ?_
              obtain ⟨f36l, f36h, -⟩ := pw_obj (c := 26) h34I rfl
              refine pw_call (m' := 48) (As := [.ref 42, pw_i x29]) (rest := []) (ls'' := [some (.ref 42), some (pw_i x29)]) (Nat.le_trans (by decide) hd) E rfl (fun _ => pw_iV rfl rfl rfl rfl (pw_cellI f36h rfl)) (rfl : pm_ent 48 = some (2, 2, 5, 4, pmc_48)) rfl rfl (cm_48_x26 (pw_dp hd (by decide)) h34I (x29) (by omega) (by omega) (by omega)) ?_
              rintro h37 v38 ⟨h37I, h37E, hqpu, rfl⟩
              refine ⟨_, rfl, ?_⟩
              have h37F := h34F.tr (h37E.wk (W' := [26, 27, 30, 33, 36]) (by first | rfl | simp))
              show pw X d h37 50 83 [some (.ref 42), some (.ref 40), some (.ref 46), some (pw_i x29), some (pw_i (pw_rk x29))] [] _
              obtain ⟨hIN2, hS2, hC2, hB2⟩ := hINA.pu hqpu (by omega) (by omega) hnA (by omega) m4 (pw_Eg (c := 30) h34I h37E rfl rfl 1) (pw_Eg (c := 33) h34I h37E rfl rfl) (pw_Eg (c := 36) h34I h37E rfl rfl)
              refine pw_ld E (pc' := 84) (st' := [.ref 42]) rfl (fun _ => rfl) ?_
              refine pw_ld E (pc' := 85) (st' := [pw_i 2, .ref 42]) rfl (fun _ => rfl) ?_
              refine pw_putI h37I E (c := 26) (k := 7) (pc' := 88) rfl rfl rfl rfl (by omega) (by omega) (by omega) (by omega) rfl rfl ?_
              intro h39I h39E
              generalize h39w : pw_w h37 26 7 (pw_i 2) = h39 at h39I h39E ⊢
              have h39F := h37F.tr (h39E.wk (W' := [26, 27, 30, 33, 36]) (by first | rfl | simp))
              refine pw_ld E (pc' := 89) (st' := [pw_i 0]) rfl (fun _ => rfl) ?_
              refine pw_iret E rfl ?_
              have z7 : pw_g h39 26 7 = 2 := by rw [← h39w]; exact pw_g_eq (c := 26) (k := 7) h37I rfl rfl (by omega) (by omega)
              have zk : ∀ k : Nat, k ≠ 7 → pw_g h39 26 k = pw_g h37 26 k := fun k hk => by rw [← h39w]; exact pw_g_ne (fun q => hk q.2.symm)
              have z4 := zk 4 (by decide)
              have z5 := zk 5 (by decide)
              have z6 := zk 6 (by decide)
              have z8 := zk 8 (by decide)
              have z30 : pw_g h39 30 1 = pw_g h37 30 1 := by rw [← h39w]; exact pw_g_ne (by omega)
              have z33 : ∀ j : Nat, pw_g h39 33 j = pw_g h37 33 j := fun j => by rw [← h39w]; exact pw_g_ne (by omega)
              have z36 : ∀ j : Nat, pw_g h39 36 j = pw_g h37 36 j := fun j => by rw [← h39w]; exact pw_g_ne (by omega)
              have zS : px_S 26 h39 = px_S 26 h37 := px_S.eq (c := 26) z4 (fun j => by rw [← h39w]; exact pw_g_ne (by omega))
              have zC : px_C h39 st = px_C h37 st := px_C.eq z30 z36
              have p5 := hqpu.2.2.2 5 (by decide)
              have p6 := hqpu.2.2.2 6 (by decide)
              have p8 := hqpu.2.2.2 8 (by decide)
              obtain ⟨a1, a2, a3, a4, a5, a6, a7, a8⟩ := hIN2
              have hB3 : px_B 26 h h39 := (hB1.tr (by omega) hB2).eq z30 z36 z33
              have hIN3 : px_IN 26 h39 st (T + 1) := ⟨by rw [zS]; exact a1, by rw [zS]; omega, by rw [zS]; omega, by omega, by omega, by omega, by rw [z8, z33, z30]; exact a7, by omega⟩
              have hst := px_erP (F := pt_FF 0) (K := K) (V := V) (d := pw_g h 26 5) (o := pw_g h 26 6) (S := px_S 26 h) (c := px_C h st) (by omega) (by omega) (by omega) (fun q => by have w := q.1; rw [← hx29r] at w; omega)
              rw [← hx29r, hrlA] at hst
              exact ⟨h39I, h39F, ⟨_, rfl, by omega, by omega, Or.inr (Or.inl ⟨rfl, (by rw [px_s, hst]; try rfl), (by rw [px_s, hst]; exact ⟨hIN3, (by rw [zS, zC, z5, z6, p5, p6, hS2, hC2, m5, m6]; try rfl), (by show pw_g h39 26 7 = 2 + 0; omega), fun q => absurd (show (0 : Int) = 1 from q) (by decide), hB3, by omega⟩)⟩)⟩⟩
            · intro hc40
              change ¬ (pw_rk x29 ≠ (2 : Int)) at hc40
              refine pw_ld E (pc' := 56) (st' := [.ref 42]) rfl (fun _ => rfl) ?_
              refine pw_ld E (pc' := 57) (st' := [pw_i 3, .ref 42]) rfl (fun _ => rfl) ?_
              refine pw_ld E (pc' := 58) (st' := [.ref 46, pw_i 3, .ref 42]) rfl (fun _ => rfl) ?_
              obtain ⟨f41l, f41h, -⟩ := pw_obj (c := 26) I rfl
              refine pw_call (m' := 52) (As := [.ref 42, pw_i 3, .ref 46]) (rest := []) (ls'' := [some (.ref 42), some (pw_i 3), some (.ref 46)]) (Nat.le_trans (by decide) hd) E rfl (fun _ => pw_iV rfl rfl rfl rfl (pw_cellI f41h rfl)) (rfl : pm_ent 52 = some (3, 3, 5, 4, pmc_52)) rfl rfl (cm_52_x26 (pw_dp hd (by decide)) I (3) (by omega) (by omega) st hXr (by omega) (by omega) (by omega) i7) ?_
              rintro h42 v43 ⟨h42I, h42E, hqrl, rfl⟩
              refine ⟨_, rfl, ?_⟩
              have h42F := E0.tr (h42E.wk (W' := [26, 27, 30, 33, 36]) (by first | rfl | simp))
              show pw X d h42 50 61 [some (.ref 42), some (.ref 40), some (.ref 46), some (pw_i x29), some (pw_i (pw_rk x29))] [] _
              have hIN1 := (hIN.rl hqrl (by decide)).1
              have hn81 := (hIN.rl hqrl (by decide)).2.1 hn8
              have hrl3 := hqrl.1
              have hB0 := hqrl.2.2.1
              have hK0 := hqrl.2.2.2
              have k5 := hK0 5 (by decide)
              have k6 := hK0 6 (by decide)
              have k8 := hK0 8 (by decide)
              have hIN1c := hIN1
              obtain ⟨j1, j2, j3, j4, j5, j6, j7, j8⟩ := hIN1c
              have hqr3 := hqrl
              refine pw_ld E (pc' := 62) (st' := [.ref 42]) rfl (fun _ => rfl) ?_
              obtain ⟨f44l, f44h, -⟩ := pw_obj (c := 26) h42I rfl
              refine pw_call (m' := 53) (As := [.ref 42]) (rest := []) (ls'' := [some (.ref 42)]) (Nat.le_trans (by decide) hd) E rfl (fun _ => pw_iV rfl rfl rfl rfl (pw_cellI f44h rfl)) (rfl : pm_ent 53 = some (1, 1, 5, 0, pmc_53)) rfl rfl (cm_53_x26 (pw_dp hd (by decide)) h42I hXr) ?_
              rintro u46 v45 ⟨rfl, x47, rfl, hx47a, hx47b, hx47r⟩
              refine ⟨_, rfl, ?_⟩
              show pw X d h42 50 65 [some (.ref 42), some (.ref 40), some (.ref 46), some (pw_i x29), some (pw_i (pw_rk x29))] [pw_i x47] _
              change x47 = pt_tr (px_S 26 h42) at hx47r
              refine pw_ld E (pc' := 66) (st' := [pw_i 2, pw_i x47]) rfl (fun _ => rfl) ?_
              refine pw_if2 E (pc' := 71) rfl (by decide) (by omega) (by omega) (by decide) (by decide) ?_ ?_
              · intro hc48
                change x47 ≠ (2 : Int) at hc48
                refine pw_ld E (pc' := 72) (st' := [.ref 42]) rfl (fun _ => rfl) ?_
                refine pw_ld E (pc' := 74) (st' := [pw_i (pw_rk x29), .ref 42]) rfl (fun _ => rfl) ?_
                refine pw_ld E (pc' := 75) (st' := [.ref 46, pw_i (pw_rk x29), .ref 42]) rfl (fun _ => rfl) ?_
                obtain ⟨f49l, f49h, -⟩ := pw_obj (c := 26) h42I rfl
                refine pw_call (m' := 52) (As := [.ref 42, pw_i (pw_rk x29), .ref 46]) (rest := []) (ls'' := [some (.ref 42), some (pw_i (pw_rk x29)), some (.ref 46)]) (Nat.le_trans (by decide) hd) E rfl (fun _ => pw_iV rfl rfl rfl rfl (pw_cellI f49h rfl)) (rfl : pm_ent 52 = some (3, 3, 5, 4, pmc_52)) rfl rfl (cm_52_x26 (pw_dp hd (by decide)) h42I (pw_rk x29) (by omega) (by omega) st hXr (by omega) (by omega) (by omega) j7) ?_
                rintro h50 v51 ⟨h50I, h50E, hqrl, rfl⟩
                refine ⟨_, rfl, ?_⟩
                have h50F := h42F.tr (h50E.wk (W' := [26, 27, 30, 33, 36]) (by first | rfl | simp))
                show pw X d h50 50 78 [some (.ref 42), some (.ref 40), some (.ref 46), some (pw_i x29), some (pw_i (pw_rk x29))] [] _
                have hRA := hIN1.rl hqrl (by omega)
                have hINA := hRA.1
                have hnA := hRA.2.1 hn81
                have htA := hRA.2.2
                have m4 := (pw_gI (c := 26) (k := 4) h50I rfl rfl).1
                have mR := hINA.room
                have l5 := hqrl.2.2.2 5 (by decide)
                have l6 := hqrl.2.2.2 6 (by decide)
                have l8 := hqrl.2.2.2 8 (by decide)
                have m5 : pw_g h50 26 5 = pw_g h 26 5 := by omega
                have m6 : pw_g h50 26 6 = pw_g h 26 6 := by omega
                have hrlA : pt_rl (pt_rk x29) (px_S 26 h) (px_C h st) = (px_S 26 h50, px_C h50 st) := by rw [pt_rl_of (show pt_rk x29 ≤ 3 by omega) hrl3, ← hx0]; exact hqrl.1
                have hB1 : px_B 26 h h50 := hB0.tr (by omega) hqrl.2.2.1
                refine pw_ld E (pc' := 79) (st' := [.ref 42]) rfl (fun _ => rfl) ?_
                refine pw_ld E (pc' := 80) (st' := [pw_i x29, .ref 42]) rfl (fun _ => rfl) ?_
                obtain ⟨f52l, f52h, -⟩ := pw_obj (c := 26) h50I rfl
                refine pw_call (m' := 48) (As := [.ref 42, pw_i x29]) (rest := []) (ls'' := [some (.ref 42), some (pw_i x29)]) (Nat.le_trans (by decide) hd) E rfl (fun _ => pw_iV rfl rfl rfl rfl (pw_cellI f52h rfl)) (rfl : pm_ent 48 = some (2, 2, 5, 4, pmc_48)) rfl rfl (cm_48_x26 (pw_dp hd (by decide)) h50I (x29) (by omega) (by omega) (by omega)) ?_
                rintro h53 v54 ⟨h53I, h53E, hqpu, rfl⟩
                refine ⟨_, rfl, ?_⟩
                have h53F := h50F.tr (h53E.wk (W' := [26, 27, 30, 33, 36]) (by first | rfl | simp))
                show pw X d h53 50 83 [some (.ref 42), some (.ref 40), some (.ref 46), some (pw_i x29), some (pw_i (pw_rk x29))] [] _
                obtain ⟨hIN2, hS2, hC2, hB2⟩ := hINA.pu hqpu (by omega) (by omega) hnA (by omega) m4 (pw_Eg (c := 30) h50I h53E rfl rfl 1) (pw_Eg (c := 33) h50I h53E rfl rfl) (pw_Eg (c := 36) h50I h53E rfl rfl)
                refine pw_ld E (pc' := 84) (st' := [.ref 42]) rfl (fun _ => rfl) ?_
                refine pw_ld E (pc' := 85) (st' := [pw_i 2, .ref 42]) rfl (fun _ => rfl) ?_
                refine pw_putI h53I E (c := 26) (k := 7) (pc' := 88) rfl rfl rfl rfl (by omega) (by omega) (by omega) (by omega) rfl rfl ?_
                intro h55I h55E
                generalize h55w : pw_w h53 26 7 (pw_i 2) = h55 at h55I h55E ⊢
                have h55F := h53F.tr (h55E.wk (W' := [26, 27, 30, 33, 36]) (by first | rfl | simp))
                refine pw_ld E (pc' := 89) (st' := [pw_i 0]) rfl (fun _ => rfl) ?_
                refine pw_iret E rfl ?_
                have z7 : pw_g h55 26 7 = 2 := by rw [← h55w]; exact pw_g_eq (c := 26) (k := 7) h53I rfl rfl (by omega) (by omega)
                have zk : ∀ k : Nat, k ≠ 7 → pw_g h55 26 k = pw_g h53 26 k := fun k hk => by rw [← h55w]; exact pw_g_ne (fun q => hk q.2.symm)
                have z4 := zk 4 (by decide)
                have z5 := zk 5 (by decide)
                have z6 := zk 6 (by decide)
                have z8 := zk 8 (by decide)
                have z30 : pw_g h55 30 1 = pw_g h53 30 1 := by rw [← h55w]; exact pw_g_ne (by omega)
                have z33 : ∀ j : Nat, pw_g h55 33 j = pw_g h53 33 j := fun j => by rw [← h55w]; exact pw_g_ne (by omega)
                have z36 : ∀ j : Nat, pw_g h55 36 j = pw_g h53 36 j := fun j => by rw [← h55w]; exact pw_g_ne (by omega)
                have zS : px_S 26 h55 = px_S 26 h53 := px_S.eq (c := 26) z4 (fun j => by rw [← h55w]; exact pw_g_ne (by omega))
                have zC : px_C h55 st = px_C h53 st := px_C.eq z30 z36
                have p5 := hqpu.2.2.2 5 (by decide)
                have p6 := hqpu.2.2.2 6 (by decide)
                have p8 := hqpu.2.2.2 8 (by decide)
                obtain ⟨a1, a2, a3, a4, a5, a6, a7, a8⟩ := hIN2
                have hB3 : px_B 26 h h55 := (hB1.tr (by omega) hB2).eq z30 z36 z33
                have hIN3 : px_IN 26 h55 st (T + 1) := ⟨by rw [zS]; exact a1, by rw [zS]; omega, by rw [zS]; omega, by omega, by omega, by omega, by rw [z8, z33, z30]; exact a7, by omega⟩
                have hst := px_erP (F := pt_FF 0) (K := K) (V := V) (d := pw_g h 26 5) (o := pw_g h 26 6) (S := px_S 26 h) (c := px_C h st) (by omega) (by omega) (by omega) (fun q => by have w := q.2; rw [hrl3] at w; have w : pt_tr (px_S 26 h42) = 2 := w; omega)
                rw [← hx29r, hrlA] at hst
                exact ⟨h55I, h55F, ⟨_, rfl, by omega, by omega, Or.inr (Or.inl ⟨rfl, (by rw [px_s, hst]; try rfl), (by rw [px_s, hst]; exact ⟨hIN3, (by rw [zS, zC, z5, z6, p5, p6, hS2, hC2, m5, m6]; try rfl), (by show pw_g h55 26 7 = 2 + 0; omega), fun q => absurd (show (0 : Int) = 1 from q) (by decide), hB3, by omega⟩)⟩)⟩⟩
              · intro hc56
                change ¬ (x47 ≠ (2 : Int)) at hc56
                refine pw_ld E (pc' := 70) (st' := [pw_i 1]) rfl (fun _ => rfl) ?_
                refine pw_iret E rfl ?_
                exact ⟨h42I, h42F, ⟨_, rfl, by omega, by omega, Or.inl ⟨by decide, by rw [px_s, px_er2 (by omega) (by omega) (by omega) (by rw [← hx29r]; omega) (by rw [hrl3]; show pt_tr (px_S 26 h42) = 2; omega)]; try rfl⟩⟩⟩
          · intro hc57
            change ¬ (x29 ≠ ((-1) : Int)) at hc57
            refine pw_ld E (pc' := 41) (st' := [pw_i 1]) rfl (fun _ => rfl) ?_
            refine pw_iret E rfl ?_
            exact ⟨I, E0, ⟨_, rfl, by omega, by omega, Or.inl ⟨by decide, by rw [px_s, px_erW (by omega) (by omega) (by omega)]; try rfl⟩⟩⟩
        · intro hc58
          change ¬ (x17 = (0 : Int)) at hc58
          exfalso; omega
    · intro hc59
      change ¬ (x4 = (0 : Int)) at hc59
      exfalso; omega
set_option maxHeartbeats 4000000 in
theorem cm_51_x28 {X : List (Nat × List Value)} {d : Nat} {h : pm_H} (hd : 3 ≤ d) (I : pw_I h) (st T : Int) (hp0 : pw_Xr X) (hp1 : px_IN 28 h st T) (hp2 : T ≤ 1000) : pw X d h 51 0 [some (.ref 44), some (.ref 46)] [] (fun h' v => pw_I h' ∧ pw_E [28, 29, 30, 33, 36] h h' ∧ ∃ a : Int, v = .inl (some (pw_i a)) ∧ 0 ≤ a ∧ a ≤ 1 ∧ ((a = 1 ∧ 0 < pw_g h 28 6) ∨ (a = 0 ∧ pw_g h 28 6 ≤ 0 ∧ px_EN 28 st T h h' (1, (pt_rl 1 (px_S 28 h) (px_C h st)).1, pw_g h 28 5, pw_g h 28 6, (pt_rl 1 (px_S 28 h) (px_C h st)).2)))) := by
  have E : pm_ent 51 = some (2, 2, 5, 0, pmc_51) := rfl
  have E0 : pw_E [28, 29, 30, 33, 36] h h := pw_E.rf _ _
  have hXr := hp0
  have hIN := hp1
  obtain ⟨i1, i2, i3, i4, i5, i6, i7, i8⟩ := hp1
  refine pw_ld E (pc' := 1) (st' := [.ref 44]) rfl (fun _ => rfl) ?_
  refine pw_getI2 I E (c := 28) (k := 6) (pc' := 4) rfl rfl rfl rfl rfl rfl (fun hf1a hf1b => ?_)
  refine pw_if E (pc' := 9) rfl (by decide) (by omega) (by omega) ?_ ?_
  · intro hc2
    change pw_g h 28 6 ≤ (0 : Int) at hc2
    refine pw_ld E (pc' := 10) (st' := [.ref 44]) rfl (fun _ => rfl) ?_
    refine pw_ld E (pc' := 11) (st' := [pw_i 1, .ref 44]) rfl (fun _ => rfl) ?_
    refine pw_ld E (pc' := 12) (st' := [.ref 46, pw_i 1, .ref 44]) rfl (fun _ => rfl) ?_
    obtain ⟨f3l, f3h, -⟩ := pw_obj (c := 28) I rfl
    refine pw_call (m' := 52) (As := [.ref 44, pw_i 1, .ref 46]) (rest := []) (ls'' := [some (.ref 44), some (pw_i 1), some (.ref 46)]) (Nat.le_trans (by decide) hd) E rfl (fun _ => pw_iV rfl rfl rfl rfl (pw_cellI f3h rfl)) (rfl : pm_ent 52 = some (3, 3, 5, 4, pmc_52)) rfl rfl (cm_52_x28 (pw_dp hd (by decide)) I (1) (by omega) (by omega) st hXr (by omega) (by omega) (by omega) i7) ?_
    rintro h4 v5 ⟨h4I, h4E, hqrl, rfl⟩
    refine ⟨_, rfl, ?_⟩
    have h4F := E0.tr (h4E.wk (W' := [28, 29, 30, 33, 36]) (by first | rfl | simp))
    show pw X d h4 51 15 [some (.ref 44), some (.ref 46)] [] _
    refine pw_ld E (pc' := 16) (st' := [.ref 44]) rfl (fun _ => rfl) ?_
    refine pw_ld E (pc' := 17) (st' := [pw_i 0, .ref 44]) rfl (fun _ => rfl) ?_
    refine pw_putI h4I E (c := 28) (k := 7) (pc' := 20) rfl rfl rfl rfl (by omega) (by omega) (by omega) (by omega) rfl rfl ?_
    intro h6I h6E
    generalize h6w : pw_w h4 28 7 (pw_i 0) = h6 at h6I h6E ⊢
    have h6F := h4F.tr (h6E.wk (W' := [28, 29, 30, 33, 36]) (by first | rfl | simp))
    refine pw_ld E (pc' := 21) (st' := [pw_i 0]) rfl (fun _ => rfl) ?_
    refine pw_iret E rfl ?_
    have z7 : pw_g h6 28 7 = 0 := by rw [← h6w]; exact pw_g_eq (c := 28) (k := 7) h4I rfl rfl (by omega) (by omega)
    have z8 : pw_g h6 28 8 = pw_g h4 28 8 := by rw [← h6w]; exact pw_g_ne (by omega)
    have z1 : pw_g h6 30 1 = pw_g h4 30 1 := by rw [← h6w]; exact pw_g_ne (by omega)
    have zC : px_C h6 st = px_C h4 st := px_C.eq z1 (fun j => by rw [← h6w]; exact pw_g_ne (by omega))
    have zB : px_B 28 h h6 := hqrl.2.2.1.eq z1 (fun j => by rw [← h6w]; exact pw_g_ne (by omega)) (fun j => by rw [← h6w]; exact pw_g_ne (by omega))
    have q2 := hqrl.2.1
    have q8 := hqrl.2.2.2 8 (by decide)
    have r4 := (pw_gI (c := 28) (k := 4) h4I rfl rfl).1
    exact ⟨h6I, h6F, ⟨_, rfl, by omega, by omega, Or.inr ⟨rfl, by omega, ⟨(by rw [zC, hqrl.1]; try rfl), zB, z7, by omega, by omega⟩⟩⟩⟩
  · intro hc7
    change ¬ (pw_g h 28 6 ≤ (0 : Int)) at hc7
    refine pw_ld E (pc' := 8) (st' := [pw_i 1]) rfl (fun _ => rfl) ?_
    refine pw_iret E rfl ?_
    exact ⟨I, E0, ⟨_, rfl, by omega, by omega, Or.inl ⟨rfl, by omega⟩⟩⟩
set_option maxHeartbeats 4000000 in
theorem cm_54_x28 {X : List (Nat × List Value)} {d : Nat} {h : pm_H} (hd : 3 ≤ d) (I : pw_I h) (st T : Int) (hp0 : pw_Xr X) (hp1 : px_IN 28 h st T) (hp2 : T ≤ 1000) (hp3 : pt_n8 (px_S 28 h)) : pw X d h 54 0 [some (.ref 44), some (.ref 46)] [] (fun h' v => pw_I h' ∧ pw_E [28, 29, 30, 33, 36] h h' ∧ ∃ a : Int, v = .inl (some (pw_i a)) ∧ 0 ≤ a ∧ a ≤ 1 ∧ ((a = 1 ∧ pw_g h 28 6 ≤ 0) ∨ (a = 0 ∧ 0 < pw_g h 28 6 ∧ px_PO 28 st T h h' 1 (pt_fin (pt_rl 1 (px_S 28 h) (px_C h st)).1.tail (pw_g h 28 5 - 1) (pw_g h 28 6 - 1) (pt_rl 1 (px_S 28 h) (px_C h st)).2)))) := by
  have E : pm_ent 54 = some (2, 2, 5, 0, pmc_54) := rfl
  have E0 : pw_E [28, 29, 30, 33, 36] h h := pw_E.rf _ _
  have hXr := hp0
  have hIN := hp1
  obtain ⟨i1, i2, i3, i4, i5, i6, i7, i8⟩ := hp1
  have hoB := px_dcB (px_S 28 h)
  refine pw_ld E (pc' := 1) (st' := [.ref 44]) rfl (fun _ => rfl) ?_
  refine pw_getI2 I E (c := 28) (k := 6) (pc' := 4) rfl rfl rfl rfl rfl rfl (fun hf1a hf1b => ?_)
  refine pw_if E (pc' := 9) rfl (by decide) (by omega) (by omega) ?_ ?_
  · intro hc2
    change pw_g h 28 6 ≠ (0 : Int) at hc2
    refine pw_ld E (pc' := 10) (st' := [.ref 44]) rfl (fun _ => rfl) ?_
    refine pw_ld E (pc' := 11) (st' := [pw_i 1, .ref 44]) rfl (fun _ => rfl) ?_
    refine pw_ld E (pc' := 12) (st' := [.ref 46, pw_i 1, .ref 44]) rfl (fun _ => rfl) ?_
    obtain ⟨f3l, f3h, -⟩ := pw_obj (c := 28) I rfl
    refine pw_call (m' := 52) (As := [.ref 44, pw_i 1, .ref 46]) (rest := []) (ls'' := [some (.ref 44), some (pw_i 1), some (.ref 46)]) (Nat.le_trans (by decide) hd) E rfl (fun _ => pw_iV rfl rfl rfl rfl (pw_cellI f3h rfl)) (rfl : pm_ent 52 = some (3, 3, 5, 4, pmc_52)) rfl rfl (cm_52_x28 (pw_dp hd (by decide)) I (1) (by omega) (by omega) st hXr (by omega) (by omega) (by omega) i7) ?_
    rintro h4 v5 ⟨h4I, h4E, hqrl, rfl⟩
    refine ⟨_, rfl, ?_⟩
    have h4F := E0.tr (h4E.wk (W' := [28, 29, 30, 33, 36]) (by first | rfl | simp))
    show pw X d h4 54 15 [some (.ref 44), some (.ref 46)] [] _
    obtain ⟨T9, u1, u2, u3, u4⟩ := px_clT (c := px_C h st) i1 hp3 (by omega)
    rw [hqrl.1] at u1
    change px_S 28 h4 = 9 :: T9 at u1
    have ul := px_S_len (c := 28) (h := h4)
    rw [u1, List.length_cons] at ul
    have uB := px_dcB T9
    have k5 := hqrl.2.2.2 5 (by decide)
    have k6 := hqrl.2.2.2 6 (by decide)
    have k8 := hqrl.2.2.2 8 (by decide)
    have hIN1 := (hIN.rl hqrl (by decide)).1
    refine pw_ld E (pc' := 16) (st' := [.ref 44]) rfl (fun _ => rfl) ?_
    refine pw_ld E (pc' := 17) (st' := [.ref 44, .ref 44]) rfl (fun _ => rfl) ?_
    refine pw_getI2 h4I E (c := 28) (k := 4) (pc' := 20) rfl rfl rfl rfl rfl rfl (fun hf6a hf6b => ?_)
    refine pw_ld E (pc' := 21) (st' := [pw_i 1, pw_i (pw_g h4 28 4), .ref 44]) rfl (fun _ => rfl) ?_
    refine pw_sub E (pc' := 22) rfl rfl ?_
    refine pw_putI h4I E (c := 28) (k := 4) (pc' := 25) rfl rfl rfl rfl (by omega) (by omega) (by omega) (by omega) rfl rfl ?_
    intro h7I h7E
    generalize h7w : pw_w h4 28 4 (pw_i ((pw_g h4 28 4) - 1)) = h7 at h7I h7E ⊢
    have h7F := h4F.tr (h7E.wk (W' := [28, 29, 30, 33, 36]) (by first | rfl | simp))
    refine pw_ld E (pc' := 26) (st' := [.ref 44]) rfl (fun _ => rfl) ?_
    refine pw_ld E (pc' := 27) (st' := [.ref 44, .ref 44]) rfl (fun _ => rfl) ?_
    have f5a : pw_g h7 28 5 = pw_g h4 28 5 := by rw [← h7w]; exact pw_g_ne (by omega)
    refine pw_getI2 h7I E (c := 28) (k := 5) (pc' := 30) rfl rfl rfl rfl rfl rfl (fun hf8a hf8b => ?_)
    refine pw_ld E (pc' := 31) (st' := [pw_i 1, pw_i (pw_g h7 28 5), .ref 44]) rfl (fun _ => rfl) ?_
    refine pw_sub E (pc' := 32) rfl rfl ?_
    refine pw_putI h7I E (c := 28) (k := 5) (pc' := 35) rfl rfl rfl rfl (by omega) (by omega) (by omega) (by omega) rfl rfl ?_
    intro h9I h9E
    generalize h9w : pw_w h7 28 5 (pw_i ((pw_g h7 28 5) - 1)) = h9 at h9I h9E ⊢
    have h9F := h7F.tr (h9E.wk (W' := [28, 29, 30, 33, 36]) (by first | rfl | simp))
    refine pw_ld E (pc' := 36) (st' := [.ref 44]) rfl (fun _ => rfl) ?_
    refine pw_ld E (pc' := 37) (st' := [.ref 44, .ref 44]) rfl (fun _ => rfl) ?_
    have f6a : pw_g h9 28 6 = pw_g h4 28 6 := by rw [← h9w, pw_g_ne (by omega), ← h7w]; exact pw_g_ne (by omega)
    refine pw_getI2 h9I E (c := 28) (k := 6) (pc' := 40) rfl rfl rfl rfl rfl rfl (fun hf10a hf10b => ?_)
    refine pw_ld E (pc' := 41) (st' := [pw_i 1, pw_i (pw_g h9 28 6), .ref 44]) rfl (fun _ => rfl) ?_
    refine pw_sub E (pc' := 42) rfl rfl ?_
    refine pw_putI h9I E (c := 28) (k := 6) (pc' := 45) rfl rfl rfl rfl (by omega) (by omega) (by omega) (by omega) rfl rfl ?_
    intro h11I h11E
    generalize h11w : pw_w h9 28 6 (pw_i ((pw_g h9 28 6) - 1)) = h11 at h11I h11E ⊢
    have h11F := h9F.tr (h11E.wk (W' := [28, 29, 30, 33, 36]) (by first | rfl | simp))
    have f4 : pw_g h11 28 4 = pw_g h4 28 4 - 1 := by rw [← h11w, pw_g_ne (by omega), ← h9w, pw_g_ne (by omega), ← h7w]; exact pw_g_eq (c := 28) (k := 4) h4I rfl rfl (by omega) (by omega)
    have f5 : pw_g h11 28 5 = pw_g h4 28 5 - 1 := by rw [← h11w, pw_g_ne (by omega), ← f5a, ← h9w]; exact pw_g_eq (c := 28) (k := 5) h7I rfl rfl (by omega) (by omega)
    have f6 : pw_g h11 28 6 = pw_g h4 28 6 - 1 := by rw [← f6a, ← h11w]; exact pw_g_eq (c := 28) (k := 6) h9I rfl rfl (by omega) (by omega)
    have f8 : pw_g h11 28 8 = pw_g h4 28 8 := by rw [← h11w, pw_g_ne (by omega), ← h9w, pw_g_ne (by omega), ← h7w]; exact pw_g_ne (by omega)
    have f30 : pw_g h11 30 1 = pw_g h4 30 1 := by rw [← h11w, pw_g_ne (by omega), ← h9w, pw_g_ne (by omega), ← h7w]; exact pw_g_ne (by omega)
    have fw : ∀ j : Nat, pw_g h11 29 j = pw_g h4 29 j := fun j => by rw [← h11w, pw_g_ne (by omega), ← h9w, pw_g_ne (by omega), ← h7w]; exact pw_g_ne (by omega)
    have f33 : ∀ j : Nat, pw_g h11 33 j = pw_g h4 33 j := fun j => by rw [← h11w, pw_g_ne (by omega), ← h9w, pw_g_ne (by omega), ← h7w]; exact pw_g_ne (by omega)
    have f36 : ∀ j : Nat, pw_g h11 36 j = pw_g h4 36 j := fun j => by rw [← h11w, pw_g_ne (by omega), ← h9w, pw_g_ne (by omega), ← h7w]; exact pw_g_ne (by omega)
    have hS4 : px_S 28 h11 = T9 := px_S.pop (c := 28) (h := h4) (by omega) f4 fw u1
    have hC4 : px_C h11 st = px_C h4 st := px_C.eq f30 f36
    obtain ⟨-, v2, v3, v4, v5, v6, v7, v8⟩ := hIN1
    have hIN4 : px_IN 28 h11 st T := ⟨by rw [hS4]; exact u4, by rw [hS4]; omega, by rw [hS4]; omega, by omega, by omega, by omega, by rw [f33, f8, f30]; exact v7, by omega⟩
    have hB4 : px_B 28 h h11 := hqrl.2.2.1.eq f30 f36 f33
    have hIN4c := hIN4
    obtain ⟨j1, j2, j3, j4, j5, j6, j7, j8⟩ := hIN4c
    refine pw_ld E (pc' := 46) (st' := [.ref 44]) rfl (fun _ => rfl) ?_
    refine pw_ld E (pc' := 47) (st' := [.ref 46, .ref 44]) rfl (fun _ => rfl) ?_
    have he12 : pw_g h11 28 4 = pw_g h9 28 4 := by rw [← h11w]; exact pw_g_ne (by omega)
    have he13 : pw_g h9 28 4 = pw_g h7 28 4 := by rw [← h9w]; exact pw_g_ne (by omega)
    have he14 : pw_g h7 28 4 = (pw_g h4 28 4) - 1 := by rw [← h7w]; exact pw_g_eq (c := 28) (k := 4) h4I rfl rfl (by omega) (by omega)
    have he15 : pw_g h11 28 5 = pw_g h9 28 5 := by rw [← h11w]; exact pw_g_ne (by omega)
    have he16 : pw_g h9 28 5 = (pw_g h7 28 5) - 1 := by rw [← h9w]; exact pw_g_eq (c := 28) (k := 5) h7I rfl rfl (by omega) (by omega)
    obtain ⟨f17l, f17h, -⟩ := pw_obj (c := 28) h11I rfl
    refine pw_call (m' := 49) (As := [.ref 44, .ref 46]) (rest := []) (ls'' := [some (.ref 44), some (.ref 46)]) (Nat.le_trans (by decide) hd) E rfl (fun _ => pw_iV rfl rfl rfl rfl (pw_cellI f17h rfl)) (rfl : pm_ent 49 = some (2, 2, 5, 4, pmc_49)) rfl rfl (cm_49_x28 (pw_dp hd (by decide)) h11I st (by omega) (by omega) (by omega) j7 j2 (by omega)) ?_
    rintro h18 v19 ⟨h18I, h18E, hqep, rfl⟩
    refine ⟨_, rfl, ?_⟩
    have h18F := h11F.tr (h18E.wk (W' := [28, 29, 30, 33, 36]) (by first | rfl | simp))
    show pw X d h18 54 50 [some (.ref 44), some (.ref 46)] [] _
    refine pw_ld E (pc' := 51) (st' := [pw_i 0]) rfl (fun _ => rfl) ?_
    refine pw_iret E rfl ?_
    obtain ⟨hIN5, n5, e56, e58⟩ := hIN4.ep hqep
    have q7 := hqep.2.2.2.1
    have hst : (1, px_S 28 h18, pw_g h18 28 5, pw_g h18 28 6, px_C h18 st) = pt_fin (pt_rl 1 (px_S 28 h) (px_C h st)).1.tail (pw_g h 28 5 - 1) (pw_g h 28 6 - 1) (pt_rl 1 (px_S 28 h) (px_C h st)).2 := by
      rw [hqrl.1]
      show _ = pt_fin (px_S 28 h4).tail (pw_g h 28 5 - 1) (pw_g h 28 6 - 1) (px_C h4 st)
      have w := hqep.1
      rw [hS4, hC4, show pw_g h11 28 5 = pw_g h 28 5 - 1 by omega] at w
      rw [u1]
      show _ = pt_fin T9 (pw_g h 28 5 - 1) (pw_g h 28 6 - 1) (px_C h4 st)
      unfold pt_fin
      rw [w, show pw_g h18 28 6 = pw_g h 28 6 - 1 by omega]
    exact ⟨h18I, h18F, ⟨_, rfl, by omega, by omega, Or.inr ⟨rfl, by omega, ⟨hIN5, hst, by omega, fun _ => n5, hB4.tr (by omega) hqep.2.2.1, by omega⟩⟩⟩⟩
  · intro hc20
    change ¬ (pw_g h 28 6 ≠ (0 : Int)) at hc20
    refine pw_ld E (pc' := 8) (st' := [pw_i 1]) rfl (fun _ => rfl) ?_
    refine pw_iret E rfl ?_
    exact ⟨I, E0, ⟨_, rfl, by omega, by omega, Or.inl ⟨rfl, by omega⟩⟩⟩
set_option maxHeartbeats 4000000 in
theorem cm_50_x28 {X : List (Nat × List Value)} {d : Nat} {h : pm_H} (hd : 4 ≤ d) (I : pw_I h) (hX : pw_Xk X) (K V st T : Int) (hp0 : pw_Xr X) (hp1 : px_TR K V h) (hp2 : pw_Xs X) (hp3 : px_IN 28 h st T) (hp4 : T ≤ 999) (hp5 : pt_n8 (px_S 28 h)) : pw X d h 50 0 [some (.ref 44), some (.ref 40), some (.ref 46), none, none] [] (fun h' v => pw_I h' ∧ pw_E [28, 29, 30, 33, 36] h h' ∧ ∃ a : Int, v = .inl (some (pw_i a)) ∧ 0 ≤ a ∧ a ≤ 1 ∧ ((a ≠ 0 ∧ (pt_es (pt_FF 1) K V (px_s 28 h st 1)).1 = a) ∨ (a = 0 ∧ (pt_es (pt_FF 1) K V (px_s 28 h st 1)).1 = 0 ∧ px_PO 28 st (T + 1) h h' (pt_es (pt_FF 1) K V (px_s 28 h st 1)).2.1 (pt_es (pt_FF 1) K V (px_s 28 h st 1)).2) ∨ (a = 0 ∧ (pt_es (pt_FF 1) K V (px_s 28 h st 1)).1 = 9 ∧ px_EN 28 st T h h' (pt_es (pt_FF 1) K V (px_s 28 h st 1)).2))) := by
  have E : pm_ent 50 = some (3, 5, 5, 0, pmc_50) := rfl
  have E0 : pw_E [28, 29, 30, 33, 36] h h := pw_E.rf _ _
  have hXr := hp0
  have hTR := hp1
  have hXs := hp2
  have hIN := hp3
  have hn8 := hp5
  have hk := hp1.k
  have wo := px_opnD K V
  have hoB := px_dcB (px_S 28 h)
  obtain ⟨i1, i2, i3, i4, i5, i6, i7, i8⟩ := hp3
  refine pw_ld E (pc' := 1) (st' := [.ref 40]) rfl (fun _ => rfl) ?_
  refine pw_bip E (pc' := 3) rfl rfl (by decide) ?_
  obtain ⟨f1l, f1h, -⟩ := pw_obj (c := 24) I rfl
  refine pw_call (m' := 109) (As := [.ref 40, pw_i 59]) (rest := []) (ls'' := [some (.ref 40), some (pw_i 59)]) (Nat.le_trans (by decide) hd) E rfl (fun _ => pw_iV rfl rfl rfl rfl (pw_cellI f1h rfl)) (rfl : pm_ent 109 = some (2, 2, 9, 1, pmc_109)) rfl rfl (cm_109_x24 (pw_dp hd (by decide)) I (59) (by omega) (by omega)) ?_
  rintro u3 v2 ⟨rfl, x4, rfl, hx4a, hx4b, hx4r⟩
  refine ⟨_, rfl, ?_⟩
  show pw X d h 50 6 [some (.ref 44), some (.ref 40), some (.ref 46), none, none] [pw_i x4] _
  change (x4 = 1 ∧ pw_g h 24 4 = 3 ∧ pw_g h 24 5 = 59) ∨ (x4 = 0 ∧ ¬ (pw_g h 24 4 = 3 ∧ pw_g h 24 5 = 59)) at hx4r
  rcases (by omega : x4 = 1 ∨ x4 = 0) with hb5 | hb5
  · skip
    refine pw_if E (pc' := 15) rfl (by decide) (by omega) (by omega) ?_ ?_
    · intro hc6
      change x4 = (0 : Int) at hc6
      exfalso; omega
    · intro hc7
      change ¬ (x4 = (0 : Int)) at hc7
      refine pw_ld E (pc' := 10) (st' := [.ref 44]) rfl (fun _ => rfl) ?_
      refine pw_ld E (pc' := 11) (st' := [.ref 46, .ref 44]) rfl (fun _ => rfl) ?_
      obtain ⟨f8l, f8h, -⟩ := pw_obj (c := 28) I rfl
      refine pw_call (m' := 51) (As := [.ref 44, .ref 46]) (rest := []) (ls'' := [some (.ref 44), some (.ref 46)]) (Nat.le_trans (by decide) hd) E rfl (fun _ => pw_iV rfl rfl rfl rfl (pw_cellI f8h rfl)) (rfl : pm_ent 51 = some (2, 2, 5, 0, pmc_51)) rfl rfl (cm_51_x28 (pw_dp hd (by decide)) I st T hXr hIN (by omega)) ?_
      rintro h9 v10 ⟨h9I, h9E, x11, rfl, hx11a, hx11b, hx11r⟩
      refine ⟨_, rfl, ?_⟩
      have h9F := E0.tr (h9E.wk (W' := [28, 29, 30, 33, 36]) (by first | rfl | simp))
      show pw X d h9 50 14 [some (.ref 44), some (.ref 40), some (.ref 46), none, none] [pw_i x11] _
      change (x11 = 1 ∧ 0 < pw_g h 28 6) ∨ (x11 = 0 ∧ pw_g h 28 6 ≤ 0 ∧ px_EN 28 st T h h9 (1, (pt_rl 1 (px_S 28 h) (px_C h st)).1, pw_g h 28 5, pw_g h 28 6, (pt_rl 1 (px_S 28 h) (px_C h st)).2)) at hx11r
      refine pw_iret E rfl ?_
      rcases hx11r with ⟨y1, y2⟩ | ⟨y1, y2, y3⟩
      · exact ⟨h9I, h9F, ⟨_, rfl, by omega, by omega, Or.inl ⟨by omega, by rw [px_s, px_erE1 (by omega) (by omega) y2]; exact y1.symm⟩⟩⟩
      · exact ⟨h9I, h9F, ⟨_, rfl, by omega, by omega, Or.inr (Or.inr ⟨y1, (by rw [px_s, px_erE0 (by omega) (by omega) (by omega)]; try rfl), (by rw [px_s, px_erE0 (by omega) (by omega) (by omega)]; exact y3)⟩)⟩⟩
  · skip
    refine pw_if E (pc' := 15) rfl (by decide) (by omega) (by omega) ?_ ?_
    · intro hc13
      change x4 = (0 : Int) at hc13
      refine pw_ld E (pc' := 16) (st' := [.ref 40]) rfl (fun _ => rfl) ?_
      refine pw_bip E (pc' := 18) rfl rfl (by decide) ?_
      obtain ⟨f14l, f14h, -⟩ := pw_obj (c := 24) I rfl
      refine pw_call (m' := 109) (As := [.ref 40, pw_i 41]) (rest := []) (ls'' := [some (.ref 40), some (pw_i 41)]) (Nat.le_trans (by decide) hd) E rfl (fun _ => pw_iV rfl rfl rfl rfl (pw_cellI f14h rfl)) (rfl : pm_ent 109 = some (2, 2, 9, 1, pmc_109)) rfl rfl (cm_109_x24 (pw_dp hd (by decide)) I (41) (by omega) (by omega)) ?_
      rintro u16 v15 ⟨rfl, x17, rfl, hx17a, hx17b, hx17r⟩
      refine ⟨_, rfl, ?_⟩
      show pw X d h 50 21 [some (.ref 44), some (.ref 40), some (.ref 46), none, none] [pw_i x17] _
      change (x17 = 1 ∧ pw_g h 24 4 = 3 ∧ pw_g h 24 5 = 41) ∨ (x17 = 0 ∧ ¬ (pw_g h 24 4 = 3 ∧ pw_g h 24 5 = 41)) at hx17r
      rcases (by omega : x17 = 1 ∨ x17 = 0) with hb18 | hb18
      · skip
        refine pw_if E (pc' := 30) rfl (by decide) (by omega) (by omega) ?_ ?_
        · intro hc19
          change x17 = (0 : Int) at hc19
          exfalso; omega
        · intro hc20
          change ¬ (x17 = (0 : Int)) at hc20
          refine pw_ld E (pc' := 25) (st' := [.ref 44]) rfl (fun _ => rfl) ?_
          refine pw_ld E (pc' := 26) (st' := [.ref 46, .ref 44]) rfl (fun _ => rfl) ?_
          obtain ⟨f21l, f21h, -⟩ := pw_obj (c := 28) I rfl
          refine pw_call (m' := 54) (As := [.ref 44, .ref 46]) (rest := []) (ls'' := [some (.ref 44), some (.ref 46)]) (Nat.le_trans (by decide) hd) E rfl (fun _ => pw_iV rfl rfl rfl rfl (pw_cellI f21h rfl)) (rfl : pm_ent 54 = some (2, 2, 5, 0, pmc_54)) rfl rfl (cm_54_x28 (pw_dp hd (by decide)) I st T hXr hIN (by omega) hn8) ?_
          rintro h22 v23 ⟨h22I, h22E, x24, rfl, hx24a, hx24b, hx24r⟩
          refine ⟨_, rfl, ?_⟩
          have h22F := E0.tr (h22E.wk (W' := [28, 29, 30, 33, 36]) (by first | rfl | simp))
          show pw X d h22 50 29 [some (.ref 44), some (.ref 40), some (.ref 46), none, none] [pw_i x24] _
          change (x24 = 1 ∧ pw_g h 28 6 ≤ 0) ∨ (x24 = 0 ∧ 0 < pw_g h 28 6 ∧ px_PO 28 st T h h22 1 (pt_fin (pt_rl 1 (px_S 28 h) (px_C h st)).1.tail (pw_g h 28 5 - 1) (pw_g h 28 6 - 1) (pt_rl 1 (px_S 28 h) (px_C h st)).2)) at hx24r
          refine pw_iret E rfl ?_
          rcases hx24r with ⟨y1, y2⟩ | ⟨y1, y2, y3⟩
          · exact ⟨h22I, h22F, ⟨_, rfl, by omega, by omega, Or.inl ⟨by omega, by rw [px_s, px_erC1 (by omega) (by omega) y2]; exact y1.symm⟩⟩⟩
          · have z := px_erC0 (F := pt_FF 1) (d := pw_g h 28 5) (S := px_S 28 h) (c := px_C h st) (show K = 3 by omega) (show V = 41 by omega) (show ¬ pw_g h 28 6 ≤ 0 by omega)
            obtain ⟨y31, y3b⟩ := y3
            exact ⟨h22I, h22F, ⟨_, rfl, by omega, by omega, Or.inr (Or.inl ⟨y1, (by rw [px_s, z]; try rfl), (by rw [px_s, z]; exact ⟨y31.wk (by omega), y3b⟩)⟩)⟩⟩
      · skip
        refine pw_if E (pc' := 30) rfl (by decide) (by omega) (by omega) ?_ ?_
        · intro hc26
          change x17 = (0 : Int) at hc26
          refine pw_ld E (pc' := 31) (st' := [.ref 40]) rfl (fun _ => rfl) ?_
          refine pw_call (m' := 55) (As := [.ref 40]) (rest := []) (ls'' := [some (.ref 40), none]) (Nat.le_trans (by decide) hd) E rfl (fun _ => pw_iS rfl rfl rfl) (rfl : pm_ent 55 = some (1, 2, 5, 0, pmc_55)) rfl rfl (cm_55_x (pw_dp hd (by decide)) I hX K V hTR hXs) ?_
          rintro u28 v27 ⟨rfl, x29, rfl, hx29a, hx29b, hx29r⟩
          refine ⟨_, rfl, ?_⟩
          show pw X d h 50 34 [some (.ref 44), some (.ref 40), some (.ref 46), none, none] [pw_i x29] _
          change x29 = pt_opn K V at hx29r
          refine pw_istn E (pc' := 35) (ls' := [some (.ref 44), some (.ref 40), some (.ref 46), some (pw_i x29), none]) rfl rfl rfl rfl ?_
          refine pw_ld E (pc' := 36) (st' := [pw_i x29]) rfl (fun _ => rfl) ?_
          refine pw_ld E (pc' := 37) (st' := [pw_i ((-1)), pw_i x29]) rfl (fun _ => rfl) ?_
          refine pw_if2 E (pc' := 42) rfl (by decide) (by omega) (by omega) (by decide) (by decide) ?_ ?_
          · intro hc30
            change x29 ≠ ((-1) : Int) at hc30
            refine pw_ld E (pc' := 45) (st' := [.ref 3]) rfl (fun _ => rfl) ?_
            refine pw_ld E (pc' := 46) (st' := [pw_i x29, .ref 3]) rfl (fun _ => rfl) ?_
            refine pw_xaldR E (pc' := 47) rfl hp0 (by omega) (by omega) rfl ?_
            have hrk31 := pw_rk_le x29
            refine pw_ist E (pc' := 49) (ls' := [some (.ref 44), some (.ref 40), some (.ref 46), some (pw_i x29), some (pw_i (pw_rk x29))]) rfl rfl rfl rfl ?_
            have hx0 := px_rkE (x := x29) (by omega) (by omega)
            have hx1 := pt_rkB x29
            have hx2 : 1 ≤ pt_rk x29 := by
              have w := (pt_opnB K V).resolve_left (by omega)
              rw [hx29r]; exact w
            refine pw_ld E (pc' := 51) (st' := [pw_i (pw_rk x29)]) rfl (fun _ => rfl) ?_
            refine pw_ld E (pc' := 52) (st' := [pw_i 2, pw_i (pw_rk x29)]) rfl (fun _ => rfl) ?_
            refine pw_if2 E (pc' := 71) rfl (by decide) (by omega) (by omega) (by decide) (by decide) ?_ ?_
            · intro hc32
              change pw_rk x29 ≠ (2 : Int) at hc32
              refine pw_ld E (pc' := 72) (st' := [.ref 44]) rfl (fun _ => rfl) ?_
              refine pw_ld E (pc' := 74) (st' := [pw_i (pw_rk x29), .ref 44]) rfl (fun _ => rfl) ?_
              refine pw_ld E (pc' := 75) (st' := [.ref 46, pw_i (pw_rk x29), .ref 44]) rfl (fun _ => rfl) ?_
              obtain ⟨f33l, f33h, -⟩ := pw_obj (c := 28) I rfl
              refine pw_call (m' := 52) (As := [.ref 44, pw_i (pw_rk x29), .ref 46]) (rest := []) (ls'' := [some (.ref 44), some (pw_i (pw_rk x29)), some (.ref 46)]) (Nat.le_trans (by decide) hd) E rfl (fun _ => pw_iV rfl rfl rfl rfl (pw_cellI f33h rfl)) (rfl : pm_ent 52 = some (3, 3, 5, 4, pmc_52)) rfl rfl (cm_52_x28 (pw_dp hd (by decide)) I (pw_rk x29) (by omega) (by omega) st hXr (by omega) (by omega) (by omega) i7) ?_
              rintro h34 v35 ⟨h34I, h34E, hqrl, rfl⟩
              refine ⟨_, rfl, ?_⟩
              have h34F := E0.tr (h34E.wk (W' := [28, 29, 30, 33, 36]) (by first | rfl | simp))
              show pw X d h34 50 78 [some (.ref 44), some (.ref 40), some (.ref 46), some (pw_i x29), some (pw_i (pw_rk x29))] [] _
              have hRA := hIN.rl hqrl (by omega)
              have hINA := hRA.1
              have hnA := hRA.2.1 hn8
              have htA := hRA.2.2
              have m4 := (pw_gI (c := 28) (k := 4) h34I rfl rfl).1
              have mR := hINA.room
              have l5 := hqrl.2.2.2 5 (by decide)
              have l6 := hqrl.2.2.2 6 (by decide)
              have l8 := hqrl.2.2.2 8 (by decide)
              have m5 : pw_g h34 28 5 = pw_g h 28 5 := by omega
              have m6 : pw_g h34 28 6 = pw_g h 28 6 := by omega
              have hrlA : pt_rl (pt_rk x29) (px_S 28 h) (px_C h st) = (px_S 28 h34, px_C h34 st) := by rw [← hx0]; exact hqrl.1
              have hB1 := hqrl.2.2.1
              refine pw_ld E (pc' := 79) (st' := [.ref 44]) rfl (fun _ => rfl) ?_
              refine pw_ld E (pc' := 80) (st' := [pw_i x29, .ref 44]) rfl (fun _ => rfl) ?_
              obtain ⟨f36l, f36h, -⟩ := pw_obj (c := 28) h34I rfl
              refine pw_call (m' := 48) (As := [.ref 44, pw_i x29]) (rest := []) (ls'' := [some (.ref 44), some (pw_i x29)]) (Nat.le_trans (by decide) hd) E rfl (fun _ => pw_iV rfl rfl rfl rfl (pw_cellI f36h rfl)) (rfl : pm_ent 48 = some (2, 2, 5, 4, pmc_48)) rfl rfl (cm_48_x28 (pw_dp hd (by decide)) h34I (x29) (by omega) (by omega) (by omega)) ?_
              rintro h37 v38 ⟨h37I, h37E, hqpu, rfl⟩
              refine ⟨_, rfl, ?_⟩
              have h37F := h34F.tr (h37E.wk (W' := [28, 29, 30, 33, 36]) (by first | rfl | simp))
              show pw X d h37 50 83 [some (.ref 44), some (.ref 40), some (.ref 46), some (pw_i x29), some (pw_i (pw_rk x29))] [] _
              obtain ⟨hIN2, hS2, hC2, hB2⟩ := hINA.pu hqpu (by omega) (by omega) hnA (by omega) m4 (pw_Eg (c := 30) h34I h37E rfl rfl 1) (pw_Eg (c := 33) h34I h37E rfl rfl) (pw_Eg (c := 36) h34I h37E rfl rfl)
              refine pw_ld E (pc' := 84) (st' := [.ref 44]) rfl (fun _ => rfl) ?_
              refine pw_ld E (pc' := 85) (st' := [pw_i 2, .ref 44]) rfl (fun _ => rfl) ?_
              refine pw_putI h37I E (c := 28) (k := 7) (pc' := 88) rfl rfl rfl rfl (by omega) (by omega) (by omega) (by omega) rfl rfl ?_
              intro h39I h39E
              generalize h39w : pw_w h37 28 7 (pw_i 2) = h39 at h39I h39E ⊢
              have h39F := h37F.tr (h39E.wk (W' := [28, 29, 30, 33, 36]) (by first | rfl | simp))
              refine pw_ld E (pc' := 89) (st' := [pw_i 0]) rfl (fun _ => rfl) ?_
              refine pw_iret E rfl ?_
              have z7 : pw_g h39 28 7 = 2 := by rw [← h39w]; exact pw_g_eq (c := 28) (k := 7) h37I rfl rfl (by omega) (by omega)
              have zk : ∀ k : Nat, k ≠ 7 → pw_g h39 28 k = pw_g h37 28 k := fun k hk => by rw [← h39w]; exact pw_g_ne (fun q => hk q.2.symm)
              have z4 := zk 4 (by decide)
              have z5 := zk 5 (by decide)
              have z6 := zk 6 (by decide)
              have z8 := zk 8 (by decide)
              have z30 : pw_g h39 30 1 = pw_g h37 30 1 := by rw [← h39w]; exact pw_g_ne (by omega)
              have z33 : ∀ j : Nat, pw_g h39 33 j = pw_g h37 33 j := fun j => by rw [← h39w]; exact pw_g_ne (by omega)
              have z36 : ∀ j : Nat, pw_g h39 36 j = pw_g h37 36 j := fun j => by rw [← h39w]; exact pw_g_ne (by omega)
              have zS : px_S 28 h39 = px_S 28 h37 := px_S.eq (c := 28) z4 (fun j => by rw [← h39w]; exact pw_g_ne (by omega))
              have zC : px_C h39 st = px_C h37 st := px_C.eq z30 z36
              have p5 := hqpu.2.2.2 5 (by decide)
              have p6 := hqpu.2.2.2 6 (by decide)
              have p8 := hqpu.2.2.2 8 (by decide)
              obtain ⟨a1, a2, a3, a4, a5, a6, a7, a8⟩ := hIN2
              have hB3 : px_B 28 h h39 := (hB1.tr (by omega) hB2).eq z30 z36 z33
              have hIN3 : px_IN 28 h39 st (T + 1) := ⟨by rw [zS]; exact a1, by rw [zS]; omega, by rw [zS]; omega, by omega, by omega, by omega, by rw [z8, z33, z30]; exact a7, by omega⟩
              have hst := px_erP (F := pt_FF 1) (K := K) (V := V) (d := pw_g h 28 5) (o := pw_g h 28 6) (S := px_S 28 h) (c := px_C h st) (by omega) (by omega) (by omega) (fun q => by have w := q.1; rw [← hx29r] at w; omega)
              rw [← hx29r, hrlA] at hst
              exact ⟨h39I, h39F, ⟨_, rfl, by omega, by omega, Or.inr (Or.inl ⟨rfl, (by rw [px_s, hst]; try rfl), (by rw [px_s, hst]; exact ⟨hIN3, (by rw [zS, zC, z5, z6, p5, p6, hS2, hC2, m5, m6]; try rfl), (by show pw_g h39 28 7 = 2 + 0; omega), fun q => absurd (show (0 : Int) = 1 from q) (by decide), hB3, by omega⟩)⟩)⟩⟩
            · intro hc40
              change ¬ (pw_rk x29 ≠ (2 : Int)) at hc40
              refine pw_ld E (pc' := 56) (st' := [.ref 44]) rfl (fun _ => rfl) ?_
              refine pw_ld E (pc' := 57) (st' := [pw_i 3, .ref 44]) rfl (fun _ => rfl) ?_
              refine pw_ld E (pc' := 58) (st' := [.ref 46, pw_i 3, .ref 44]) rfl (fun _ => rfl) ?_
              obtain ⟨f41l, f41h, -⟩ := pw_obj (c := 28) I rfl
              refine pw_call (m' := 52) (As := [.ref 44, pw_i 3, .ref 46]) (rest := []) (ls'' := [some (.ref 44), some (pw_i 3), some (.ref 46)]) (Nat.le_trans (by decide) hd) E rfl (fun _ => pw_iV rfl rfl rfl rfl (pw_cellI f41h rfl)) (rfl : pm_ent 52 = some (3, 3, 5, 4, pmc_52)) rfl rfl (cm_52_x28 (pw_dp hd (by decide)) I (3) (by omega) (by omega) st hXr (by omega) (by omega) (by omega) i7) ?_
              rintro h42 v43 ⟨h42I, h42E, hqrl, rfl⟩
              refine ⟨_, rfl, ?_⟩
              have h42F := E0.tr (h42E.wk (W' := [28, 29, 30, 33, 36]) (by first | rfl | simp))
              show pw X d h42 50 61 [some (.ref 44), some (.ref 40), some (.ref 46), some (pw_i x29), some (pw_i (pw_rk x29))] [] _
              have hIN1 := (hIN.rl hqrl (by decide)).1
              have hn81 := (hIN.rl hqrl (by decide)).2.1 hn8
              have hrl3 := hqrl.1
              have hB0 := hqrl.2.2.1
              have hK0 := hqrl.2.2.2
              have k5 := hK0 5 (by decide)
              have k6 := hK0 6 (by decide)
              have k8 := hK0 8 (by decide)
              have hIN1c := hIN1
              obtain ⟨j1, j2, j3, j4, j5, j6, j7, j8⟩ := hIN1c
              have hqr3 := hqrl
              refine pw_ld E (pc' := 62) (st' := [.ref 44]) rfl (fun _ => rfl) ?_
              obtain ⟨f44l, f44h, -⟩ := pw_obj (c := 28) h42I rfl
              refine pw_call (m' := 53) (As := [.ref 44]) (rest := []) (ls'' := [some (.ref 44)]) (Nat.le_trans (by decide) hd) E rfl (fun _ => pw_iV rfl rfl rfl rfl (pw_cellI f44h rfl)) (rfl : pm_ent 53 = some (1, 1, 5, 0, pmc_53)) rfl rfl (cm_53_x28 (pw_dp hd (by decide)) h42I hXr) ?_
              rintro u46 v45 ⟨rfl, x47, rfl, hx47a, hx47b, hx47r⟩
              refine ⟨_, rfl, ?_⟩
              show pw X d h42 50 65 [some (.ref 44), some (.ref 40), some (.ref 46), some (pw_i x29), some (pw_i (pw_rk x29))] [pw_i x47] _
              change x47 = pt_tr (px_S 28 h42) at hx47r
              refine pw_ld E (pc' := 66) (st' := [pw_i 2, pw_i x47]) rfl (fun _ => rfl) ?_
              refine pw_if2 E (pc' := 71) rfl (by decide) (by omega) (by omega) (by decide) (by decide) ?_ ?_
              · intro hc48
                change x47 ≠ (2 : Int) at hc48
                refine pw_ld E (pc' := 72) (st' := [.ref 44]) rfl (fun _ => rfl) ?_
                refine pw_ld E (pc' := 74) (st' := [pw_i (pw_rk x29), .ref 44]) rfl (fun _ => rfl) ?_
                refine pw_ld E (pc' := 75) (st' := [.ref 46, pw_i (pw_rk x29), .ref 44]) rfl (fun _ => rfl) ?_
                obtain ⟨f49l, f49h, -⟩ := pw_obj (c := 28) h42I rfl
                refine pw_call (m' := 52) (As := [.ref 44, pw_i (pw_rk x29), .ref 46]) (rest := []) (ls'' := [some (.ref 44), some (pw_i (pw_rk x29)), some (.ref 46)]) (Nat.le_trans (by decide) hd) E rfl (fun _ => pw_iV rfl rfl rfl rfl (pw_cellI f49h rfl)) (rfl : pm_ent 52 = some (3, 3, 5, 4, pmc_52)) rfl rfl (cm_52_x28 (pw_dp hd (by decide)) h42I (pw_rk x29) (by omega) (by omega) st hXr (by omega) (by omega) (by omega) j7) ?_
                rintro h50 v51 ⟨h50I, h50E, hqrl, rfl⟩
                refine ⟨_, rfl, ?_⟩
                have h50F := h42F.tr (h50E.wk (W' := [28, 29, 30, 33, 36]) (by first | rfl | simp))
                show pw X d h50 50 78 [some (.ref 44), some (.ref 40), some (.ref 46), some (pw_i x29), some (pw_i (pw_rk x29))] [] _
                have hRA := hIN1.rl hqrl (by omega)
                have hINA := hRA.1
                have hnA := hRA.2.1 hn81
                have htA := hRA.2.2
                have m4 := (pw_gI (c := 28) (k := 4) h50I rfl rfl).1
                have mR := hINA.room
                have l5 := hqrl.2.2.2 5 (by decide)
                have l6 := hqrl.2.2.2 6 (by decide)
                have l8 := hqrl.2.2.2 8 (by decide)
                have m5 : pw_g h50 28 5 = pw_g h 28 5 := by omega
                have m6 : pw_g h50 28 6 = pw_g h 28 6 := by omega
                have hrlA : pt_rl (pt_rk x29) (px_S 28 h) (px_C h st) = (px_S 28 h50, px_C h50 st) := by rw [pt_rl_of (show pt_rk x29 ≤ 3 by omega) hrl3, ← hx0]; exact hqrl.1
                have hB1 : px_B 28 h h50 := hB0.tr (by omega) hqrl.2.2.1
                refine pw_ld E (pc' := 79) (st' := [.ref 44]) rfl (fun _ => rfl) ?_
                refine pw_ld E (pc' := 80) (st' := [pw_i x29, .ref 44]) rfl (fun _ => rfl) ?_
                obtain ⟨f52l, f52h, -⟩ := pw_obj (c := 28) h50I rfl
                refine pw_call (m' := 48) (As := [.ref 44, pw_i x29]) (rest := []) (ls'' := [some (.ref 44), some (pw_i x29)]) (Nat.le_trans (by decide) hd) E rfl (fun _ => pw_iV rfl rfl rfl rfl (pw_cellI f52h rfl)) (rfl : pm_ent 48 = some (2, 2, 5, 4, pmc_48)) rfl rfl (cm_48_x28 (pw_dp hd (by decide)) h50I (x29) (by omega) (by omega) (by omega)) ?_
                rintro h53 v54 ⟨h53I, h53E, hqpu, rfl⟩
                refine ⟨_, rfl, ?_⟩
                have h53F := h50F.tr (h53E.wk (W' := [28, 29, 30, 33, 36]) (by first | rfl | simp))
                show pw X d h53 50 83 [some (.ref 44), some (.ref 40), some (.ref 46), some (pw_i x29), some (pw_i (pw_rk x29))] [] _
                obtain ⟨hIN2, hS2, hC2, hB2⟩ := hINA.pu hqpu (by omega) (by omega) hnA (by omega) m4 (pw_Eg (c := 30) h50I h53E rfl rfl 1) (pw_Eg (c := 33) h50I h53E rfl rfl) (pw_Eg (c := 36) h50I h53E rfl rfl)
                refine pw_ld E (pc' := 84) (st' := [.ref 44]) rfl (fun _ => rfl) ?_
                refine pw_ld E (pc' := 85) (st' := [pw_i 2, .ref 44]) rfl (fun _ => rfl) ?_
                refine pw_putI h53I E (c := 28) (k := 7) (pc' := 88) rfl rfl rfl rfl (by omega) (by omega) (by omega) (by omega) rfl rfl ?_
                intro h55I h55E
                generalize h55w : pw_w h53 28 7 (pw_i 2) = h55 at h55I h55E ⊢
                have h55F := h53F.tr (h55E.wk (W' := [28, 29, 30, 33, 36]) (by first | rfl | simp))
                refine pw_ld E (pc' := 89) (st' := [pw_i 0]) rfl (fun _ => rfl) ?_
                refine pw_iret E rfl ?_
                have z7 : pw_g h55 28 7 = 2 := by rw [← h55w]; exact pw_g_eq (c := 28) (k := 7) h53I rfl rfl (by omega) (by omega)
                have zk : ∀ k : Nat, k ≠ 7 → pw_g h55 28 k = pw_g h53 28 k := fun k hk => by rw [← h55w]; exact pw_g_ne (fun q => hk q.2.symm)
                have z4 := zk 4 (by decide)
                have z5 := zk 5 (by decide)
                have z6 := zk 6 (by decide)
                have z8 := zk 8 (by decide)
                have z30 : pw_g h55 30 1 = pw_g h53 30 1 := by rw [← h55w]; exact pw_g_ne (by omega)
                have z33 : ∀ j : Nat, pw_g h55 33 j = pw_g h53 33 j := fun j => by rw [← h55w]; exact pw_g_ne (by omega)
                have z36 : ∀ j : Nat, pw_g h55 36 j = pw_g h53 36 j := fun j => by rw [← h55w]; exact pw_g_ne (by omega)
                have zS : px_S 28 h55 = px_S 28 h53 := px_S.eq (c := 28) z4 (fun j => by rw [← h55w]; exact pw_g_ne (by omega))
                have zC : px_C h55 st = px_C h53 st := px_C.eq z30 z36
                have p5 := hqpu.2.2.2 5 (by decide)
                have p6 := hqpu.2.2.2 6 (by decide)
                have p8 := hqpu.2.2.2 8 (by decide)
                obtain ⟨a1, a2, a3, a4, a5, a6, a7, a8⟩ := hIN2
                have hB3 : px_B 28 h h55 := (hB1.tr (by omega) hB2).eq z30 z36 z33
                have hIN3 : px_IN 28 h55 st (T + 1) := ⟨by rw [zS]; exact a1, by rw [zS]; omega, by rw [zS]; omega, by omega, by omega, by omega, by rw [z8, z33, z30]; exact a7, by omega⟩
                have hst := px_erP (F := pt_FF 1) (K := K) (V := V) (d := pw_g h 28 5) (o := pw_g h 28 6) (S := px_S 28 h) (c := px_C h st) (by omega) (by omega) (by omega) (fun q => by have w := q.2; rw [hrl3] at w; have w : pt_tr (px_S 28 h42) = 2 := w; omega)
                rw [← hx29r, hrlA] at hst
                exact ⟨h55I, h55F, ⟨_, rfl, by omega, by omega, Or.inr (Or.inl ⟨rfl, (by rw [px_s, hst]; try rfl), (by rw [px_s, hst]; exact ⟨hIN3, (by rw [zS, zC, z5, z6, p5, p6, hS2, hC2, m5, m6]; try rfl), (by show pw_g h55 28 7 = 2 + 0; omega), fun q => absurd (show (0 : Int) = 1 from q) (by decide), hB3, by omega⟩)⟩)⟩⟩
              · intro hc56
                change ¬ (x47 ≠ (2 : Int)) at hc56
                refine pw_ld E (pc' := 70) (st' := [pw_i 1]) rfl (fun _ => rfl) ?_
                refine pw_iret E rfl ?_
                exact ⟨h42I, h42F, ⟨_, rfl, by omega, by omega, Or.inl ⟨by decide, by rw [px_s, px_er2 (by omega) (by omega) (by omega) (by rw [← hx29r]; omega) (by rw [hrl3]; show pt_tr (px_S 28 h42) = 2; omega)]; try rfl⟩⟩⟩
          · intro hc57
            change ¬ (x29 ≠ ((-1) : Int)) at hc57
            refine pw_ld E (pc' := 41) (st' := [pw_i 1]) rfl (fun _ => rfl) ?_
            refine pw_iret E rfl ?_
            exact ⟨I, E0, ⟨_, rfl, by omega, by omega, Or.inl ⟨by decide, by rw [px_s, px_erW (by omega) (by omega) (by omega)]; try rfl⟩⟩⟩
        · intro hc58
          change ¬ (x17 = (0 : Int)) at hc58
          exfalso; omega
    · intro hc59
      change ¬ (x4 = (0 : Int)) at hc59
      exfalso; omega
end
section
/-! the class's Readers, exactly: an operand -/
set_option maxHeartbeats 4000000 in
theorem cm_47_x26 {X : List (Nat × List Value)} {d : Nat} {h : pm_H} (hd : 3 ≤ d) (I : pw_I h) (hX : pw_Xk X) (K V st T : Int) (hp0 : px_TR K V h) (hp1 : pw_Xs X) (hp2 : px_IN 26 h st T) (hp3 : T ≤ 999) (hp4 : pw_g h 26 7 = 2) : pw X d h 47 0 [some (.ref 42), some (.ref 40), some (.ref 46), none, none, none, none] [] (fun h' v => pw_I h' ∧ pw_E [26, 27, 30, 33, 36] h h' ∧ ∃ a : Int, v = .inl (some (pw_i a)) ∧ 0 ≤ a ∧ a ≤ 5 ∧ ((a ≠ 0 ∧ (pt_es (pt_FF 0) K V (px_s 26 h st 0)).1 = a) ∨ (a = 0 ∧ (pt_es (pt_FF 0) K V (px_s 26 h st 0)).1 = 0 ∧ px_PO 26 st (T + 1) h h' (pt_es (pt_FF 0) K V (px_s 26 h st 0)).2.1 (pt_es (pt_FF 0) K V (px_s 26 h st 0)).2))) := by
  have E : pm_ent 47 = some (3, 7, 5, 0, pmc_47) := rfl
  have E0 : pw_E [26, 27, 30, 33, 36] h h := pw_E.rf _ _
  have hTR := hp0
  have hXs := hp1
  have hIN := hp2
  have hk := hp0.k
  have w10 := px_wn10 K V
  have hwf := px_wn5 K V
  have hfB := pt_FFB (wr := 0) (V := V)
  have hoB := px_dcB (px_S 26 h)
  have hm4 := (pw_gI (c := 26) (k := 4) I rfl rfl).1
  have hroom := hIN.room
  obtain ⟨i1, i2, i3, i4, i5, i6, i7, i8⟩ := hp2
  have K135 : ∀ (n3 n4 n5 n6 : Int), 0 ≤ n3 → n3 ≤ 1 → 0 ≤ n4 → n4 ≤ 1 → 0 ≤ n5 → n5 ≤ 1 → (-1) ≤ n6 → n6 ≤ 60 → ((n3 = 1 ∧ K = 1 ∧ V = 19741) ∨ (n3 = 0 ∧ ¬ (K = 1 ∧ V = 19741))) → ((n4 = 1 ∧ K = 3 ∧ V = 40) ∨ (n4 = 0 ∧ ¬ (K = 3 ∧ V = 40))) → ((n5 = 1 ∧ K = 2) ∨ (n5 = 0 ∧ K ≠ 2)) → (n6 = px_wn 5 K V) → ((K = 1 ∧ (V = 19741 ∨ 0 ≤ pt_FF 0 V)) ∨ (K = 3 ∧ V = 40) ∨ K = 2) → (n3 = 0 ∧ n4 = 0) → (pw_g h 26 5 ≤ 4) → pw X d h 47 135 [some (.ref 42), some (.ref 40), some (.ref 46), some (pw_i n3), some (pw_i n4), some (pw_i n5), some (pw_i n6)] [] (fun h' v => pw_I h' ∧ pw_E [26, 27, 30, 33, 36] h h' ∧ ∃ a : Int, v = .inl (some (pw_i a)) ∧ 0 ≤ a ∧ a ≤ 5 ∧ ((a ≠ 0 ∧ (pt_es (pt_FF 0) K V (px_s 26 h st 0)).1 = a) ∨ (a = 0 ∧ (pt_es (pt_FF 0) K V (px_s 26 h st 0)).1 = 0 ∧ px_PO 26 st (T + 1) h h' (pt_es (pt_FF 0) K V (px_s 26 h st 0)).2.1 (pt_es (pt_FF 0) K V (px_s 26 h st 0)).2))) := by
    intro n3 n4 n5 n6 n0a n0b n1a n1b n2a n2b n3a n3b y0 y1 y2 y3 y4 y5 y6
    refine pw_ld E (pc' := 136) (st' := [.ref 46]) rfl (fun _ => rfl) ?_
    refine pw_ld E (pc' := 137) (st' := [.ref 42, .ref 46]) rfl (fun _ => rfl) ?_
    refine pw_getI2 I E (c := 26) (k := 8) (pc' := 140) rfl rfl rfl rfl rfl rfl (fun hf1a hf1b => ?_)
    refine pw_ld E (pc' := 142) (st' := [pw_i n5, pw_i (pw_g h 26 8), .ref 46]) rfl (fun _ => rfl) ?_
    refine pw_if E (pc' := 152) rfl (by decide) (by omega) (by omega) ?_ ?_
    · intro hc2
      change n5 = (0 : Int) at hc2
      refine pw_sip E (pc' := 155) rfl rfl (by decide) ?_
      refine pw_ld E (pc' := 157) (st' := [pw_i n6, pw_i 10000, pw_i (pw_g h 26 8), .ref 46]) rfl (fun _ => rfl) ?_
      refine pw_add E (pc' := 158) rfl rfl ?_
      obtain ⟨f3l, f3h, -⟩ := pw_obj (c := 30) I rfl
      refine pw_call (m' := 71) (As := [.ref 46, pw_i (pw_g h 26 8), pw_i (10000 + n6)]) (rest := []) (ls'' := [some (.ref 46), some (pw_i (pw_g h 26 8)), some (pw_i (10000 + n6))]) (Nat.le_trans (by decide) hd) E rfl (fun _ => pw_iV rfl rfl rfl rfl (pw_cellI f3h rfl)) (rfl : pm_ent 71 = some (3, 3, 7, 4, pmc_71)) rfl rfl (cm_71_x (pw_dp hd (by decide)) I (pw_g h 26 8) (by omega) (by omega) (10000 + n6) (by omega) (by omega) (by omega)) ?_
      rintro h4 v5 ⟨h4I, h4E, hqem, rfl⟩
      refine ⟨_, rfl, ?_⟩
      have h4F := E0.tr (h4E.wk (W' := [26, 27, 30, 33, 36]) (by first | rfl | simp))
      show pw X d h4 47 161 [some (.ref 42), some (.ref 40), some (.ref 46), some (pw_i n3), some (pw_i n4), some (pw_i n5), some (pw_i n6)] [] _
      have hc1 : ∀ k : Nat, pw_g h4 26 k = pw_g h 26 k := fun k => pw_Eg (c := 26) I h4E rfl rfl k
      have hw1 : ∀ j : Nat, pw_g h4 27 j = pw_g h 27 j := fun j => pw_Eg (c := 27) I h4E rfl rfl j
      obtain ⟨hIN1, hS1, hC1, hB1⟩ := hIN.em hqem hc1 hw1
      have hIN1c := hIN1
      have hc15 := hc1 5
      have hc16 := hc1 6
      have hc18 := hc1 8
      obtain ⟨j1, j2, j3, j4, j5, j6, j7, j8⟩ := hIN1c
      refine pw_ld E (pc' := 162) (st' := [.ref 42]) rfl (fun _ => rfl) ?_
      refine pw_ld E (pc' := 163) (st' := [.ref 46, .ref 42]) rfl (fun _ => rfl) ?_
      have he6 : pw_g h4 26 8 = pw_g h 26 8 := pw_Eg (c := 26) I h4E rfl rfl 8
      obtain ⟨f7l, f7h, -⟩ := pw_obj (c := 26) h4I rfl
      refine pw_call (m' := 49) (As := [.ref 42, .ref 46]) (rest := []) (ls'' := [some (.ref 42), some (.ref 46)]) (Nat.le_trans (by decide) hd) E rfl (fun _ => pw_iV rfl rfl rfl rfl (pw_cellI f7h rfl)) (rfl : pm_ent 49 = some (2, 2, 5, 4, pmc_49)) rfl rfl (cm_49_x26 (pw_dp hd (by decide)) h4I st (by omega) (by omega) (by omega) j7 j2 (by omega)) ?_
      rintro h8 v9 ⟨h8I, h8E, hqep, rfl⟩
      refine ⟨_, rfl, ?_⟩
      have h8F := h4F.tr (h8E.wk (W' := [26, 27, 30, 33, 36]) (by first | rfl | simp))
      show pw X d h8 47 166 [some (.ref 42), some (.ref 40), some (.ref 46), some (pw_i n3), some (pw_i n4), some (pw_i n5), some (pw_i n6)] [] _
      refine pw_ld E (pc' := 167) (st' := [pw_i 0]) rfl (fun _ => rfl) ?_
      refine pw_iret E rfl ?_
      obtain ⟨hIN2, n2, e26, e28⟩ := hIN1.ep hqep
      have q7 := hqep.2.2.2.1
      have hst := pt_eoF (F := pt_FF 0) (K := K) (V := V) (d := pw_g h 26 5) (o := pw_g h 26 6) (S := px_S 26 h) (c := px_C h st) (by omega) (by omega) (by omega) (by omega)
      have hfi : (1, px_S 26 h8, pw_g h8 26 5, pw_g h8 26 6, px_C h8 st) = pt_fin (px_S 26 h) (pw_g h 26 5) (pw_g h 26 6) ((10000 + pt_FF 0 V) :: px_C h st) := by
        have w := hqep.1
        rw [hS1, hC1, hc1 5, show 10000 + n6 = (10000 + pt_FF 0 V) by omega] at w
        unfold pt_fin
        rw [w, show pw_g h8 26 6 = pw_g h 26 6 by omega]
      exact ⟨h8I, h8F, ⟨_, rfl, by omega, by omega, Or.inr ⟨rfl, (by rw [px_s, hst]; try rfl), (by rw [px_s, hst]; exact ⟨hIN2, hfi, (by show pw_g h8 26 7 = 2 + 1; omega), fun _ => n2, hB1.tr (hc1 8) hqep.2.2.1, by omega⟩)⟩⟩⟩
    · intro hc10
      change ¬ (n5 = (0 : Int)) at hc10
      refine pw_ld E (pc' := 146) (st' := [.ref 40, pw_i (pw_g h 26 8), .ref 46]) rfl (fun _ => rfl) ?_
      obtain ⟨f11l, f11h, -⟩ := pw_obj (c := 24) I rfl
      refine pw_call (m' := 110) (As := [.ref 40]) (rest := [pw_i (pw_g h 26 8), .ref 46]) (ls'' := [some (.ref 40)]) (Nat.le_trans (by decide) hd) E rfl (fun _ => pw_iV rfl rfl rfl rfl (pw_cellI f11h rfl)) (rfl : pm_ent 110 = some (1, 1, 9, 0, pmc_110)) rfl rfl (cm_110_x24 (pw_dp hd (by decide)) I ) ?_
      rintro u13 v12 ⟨rfl, x14, rfl, hx14a, hx14b, hx14r⟩
      refine ⟨_, rfl, ?_⟩
      show pw X d h 47 149 [some (.ref 42), some (.ref 40), some (.ref 46), some (pw_i n3), some (pw_i n4), some (pw_i n5), some (pw_i n6)] [pw_i x14, pw_i (pw_g h 26 8), .ref 46] _
      change x14 = pw_g h 24 5 at hx14r
      refine pw_goto E (pc' := 158) rfl (by decide) ?_
      obtain ⟨f15l, f15h, -⟩ := pw_obj (c := 30) I rfl
      refine pw_call (m' := 71) (As := [.ref 46, pw_i (pw_g h 26 8), pw_i x14]) (rest := []) (ls'' := [some (.ref 46), some (pw_i (pw_g h 26 8)), some (pw_i x14)]) (Nat.le_trans (by decide) hd) E rfl (fun _ => pw_iV rfl rfl rfl rfl (pw_cellI f15h rfl)) (rfl : pm_ent 71 = some (3, 3, 7, 4, pmc_71)) rfl rfl (cm_71_x (pw_dp hd (by decide)) I (pw_g h 26 8) (by omega) (by omega) (x14) (by omega) (by omega) (by omega)) ?_
      rintro h16 v17 ⟨h16I, h16E, hqem, rfl⟩
      refine ⟨_, rfl, ?_⟩
      have h16F := E0.tr (h16E.wk (W' := [26, 27, 30, 33, 36]) (by first | rfl | simp))
      show pw X d h16 47 161 [some (.ref 42), some (.ref 40), some (.ref 46), some (pw_i n3), some (pw_i n4), some (pw_i n5), some (pw_i n6)] [] _
      have hc1 : ∀ k : Nat, pw_g h16 26 k = pw_g h 26 k := fun k => pw_Eg (c := 26) I h16E rfl rfl k
      have hw1 : ∀ j : Nat, pw_g h16 27 j = pw_g h 27 j := fun j => pw_Eg (c := 27) I h16E rfl rfl j
      obtain ⟨hIN1, hS1, hC1, hB1⟩ := hIN.em hqem hc1 hw1
      have hIN1c := hIN1
      have hc15 := hc1 5
      have hc16 := hc1 6
      have hc18 := hc1 8
      obtain ⟨j1, j2, j3, j4, j5, j6, j7, j8⟩ := hIN1c
      refine pw_ld E (pc' := 162) (st' := [.ref 42]) rfl (fun _ => rfl) ?_
      refine pw_ld E (pc' := 163) (st' := [.ref 46, .ref 42]) rfl (fun _ => rfl) ?_
      have he18 : pw_g h16 26 8 = pw_g h 26 8 := pw_Eg (c := 26) I h16E rfl rfl 8
      obtain ⟨f19l, f19h, -⟩ := pw_obj (c := 26) h16I rfl
      refine pw_call (m' := 49) (As := [.ref 42, .ref 46]) (rest := []) (ls'' := [some (.ref 42), some (.ref 46)]) (Nat.le_trans (by decide) hd) E rfl (fun _ => pw_iV rfl rfl rfl rfl (pw_cellI f19h rfl)) (rfl : pm_ent 49 = some (2, 2, 5, 4, pmc_49)) rfl rfl (cm_49_x26 (pw_dp hd (by decide)) h16I st (by omega) (by omega) (by omega) j7 j2 (by omega)) ?_
      rintro h20 v21 ⟨h20I, h20E, hqep, rfl⟩
      refine ⟨_, rfl, ?_⟩
      have h20F := h16F.tr (h20E.wk (W' := [26, 27, 30, 33, 36]) (by first | rfl | simp))
      show pw X d h20 47 166 [some (.ref 42), some (.ref 40), some (.ref 46), some (pw_i n3), some (pw_i n4), some (pw_i n5), some (pw_i n6)] [] _
      refine pw_ld E (pc' := 167) (st' := [pw_i 0]) rfl (fun _ => rfl) ?_
      refine pw_iret E rfl ?_
      obtain ⟨hIN2, n2, e26, e28⟩ := hIN1.ep hqep
      have q7 := hqep.2.2.2.1
      have hst := pt_eoV (F := pt_FF 0) (K := K) (V := V) (d := pw_g h 26 5) (o := pw_g h 26 6) (S := px_S 26 h) (c := px_C h st) (by omega) (by omega)
      have hfi : (1, px_S 26 h20, pw_g h20 26 5, pw_g h20 26 6, px_C h20 st) = pt_fin (px_S 26 h) (pw_g h 26 5) (pw_g h 26 6) (V :: px_C h st) := by
        have w := hqep.1
        rw [hS1, hC1, hc1 5, show x14 = V by omega] at w
        unfold pt_fin
        rw [w, show pw_g h20 26 6 = pw_g h 26 6 by omega]
      exact ⟨h20I, h20F, ⟨_, rfl, by omega, by omega, Or.inr ⟨rfl, (by rw [px_s, hst]; try rfl), (by rw [px_s, hst]; exact ⟨hIN2, hfi, (by show pw_g h20 26 7 = 2 + 1; omega), fun _ => n2, hB1.tr (hc1 8) hqep.2.2.1, by omega⟩)⟩⟩⟩
  have K89 : ∀ (n3 n4 n5 n6 : Int), 0 ≤ n3 → n3 ≤ 1 → 0 ≤ n4 → n4 ≤ 1 → 0 ≤ n5 → n5 ≤ 1 → (-1) ≤ n6 → n6 ≤ 60 → ((n3 = 1 ∧ K = 1 ∧ V = 19741) ∨ (n3 = 0 ∧ ¬ (K = 1 ∧ V = 19741))) → ((n4 = 1 ∧ K = 3 ∧ V = 40) ∨ (n4 = 0 ∧ ¬ (K = 3 ∧ V = 40))) → ((n5 = 1 ∧ K = 2) ∨ (n5 = 0 ∧ K ≠ 2)) → (n6 = px_wn 5 K V) → ((K = 1 ∧ (V = 19741 ∨ 0 ≤ pt_FF 0 V)) ∨ (K = 3 ∧ V = 40) ∨ K = 2) → (n3 ≠ 0 ∨ n4 ≠ 0) → (pw_g h 26 5 ≤ 4) → pw X d h 47 89 [some (.ref 42), some (.ref 40), some (.ref 46), some (pw_i n3), some (pw_i n4), some (pw_i n5), some (pw_i n6)] [] (fun h' v => pw_I h' ∧ pw_E [26, 27, 30, 33, 36] h h' ∧ ∃ a : Int, v = .inl (some (pw_i a)) ∧ 0 ≤ a ∧ a ≤ 5 ∧ ((a ≠ 0 ∧ (pt_es (pt_FF 0) K V (px_s 26 h st 0)).1 = a) ∨ (a = 0 ∧ (pt_es (pt_FF 0) K V (px_s 26 h st 0)).1 = 0 ∧ px_PO 26 st (T + 1) h h' (pt_es (pt_FF 0) K V (px_s 26 h st 0)).2.1 (pt_es (pt_FF 0) K V (px_s 26 h st 0)).2))) := by
    intro n3 n4 n5 n6 n0a n0b n1a n1b n2a n2b n3a n3b y0 y1 y2 y3 y4 y5 y6
    refine pw_ld E (pc' := 90) (st' := [.ref 42]) rfl (fun _ => rfl) ?_
    refine pw_ld E (pc' := 91) (st' := [.ref 42, .ref 42]) rfl (fun _ => rfl) ?_
    refine pw_getI2 I E (c := 26) (k := 5) (pc' := 94) rfl rfl rfl rfl rfl rfl (fun hf22a hf22b => ?_)
    refine pw_ld E (pc' := 95) (st' := [pw_i 1, pw_i (pw_g h 26 5), .ref 42]) rfl (fun _ => rfl) ?_
    refine pw_add E (pc' := 96) rfl rfl ?_
    refine pw_putI I E (c := 26) (k := 5) (pc' := 99) rfl rfl rfl rfl (by omega) (by omega) (by omega) (by omega) rfl rfl ?_
    intro h23I h23E
    generalize h23w : pw_w h 26 5 (pw_i ((pw_g h 26 5) + 1)) = h23 at h23I h23E ⊢
    have h23F := E0.tr (h23E.wk (W' := [26, 27, 30, 33, 36]) (by first | rfl | simp))
    refine pw_ld E (pc' := 100) (st' := [.ref 42]) rfl (fun _ => rfl) ?_
    refine pw_ld E (pc' := 101) (st' := [.ref 42, .ref 42]) rfl (fun _ => rfl) ?_
    have z6a : pw_g h23 26 6 = pw_g h 26 6 := by rw [← h23w]; exact pw_g_ne (by omega)
    refine pw_getI2 h23I E (c := 26) (k := 6) (pc' := 104) rfl rfl rfl rfl rfl rfl (fun hf24a hf24b => ?_)
    refine pw_ld E (pc' := 106) (st' := [pw_i n4, pw_i (pw_g h23 26 6), .ref 42]) rfl (fun _ => rfl) ?_
    refine pw_if E (pc' := 113) rfl (by decide) (by omega) (by omega) ?_ ?_
    · intro hc25
      change n4 = (0 : Int) at hc25
      refine pw_ld E (pc' := 114) (st' := [pw_i 0, pw_i (pw_g h23 26 6), .ref 42]) rfl (fun _ => rfl) ?_
      refine pw_add E (pc' := 115) rfl rfl ?_
      refine pw_putI h23I E (c := 26) (k := 6) (pc' := 118) rfl rfl rfl rfl (by omega) (by omega) (by omega) (by omega) rfl rfl ?_
      intro h26I h26E
      generalize h26w : pw_w h23 26 6 (pw_i ((pw_g h23 26 6) + 0)) = h26 at h26I h26E ⊢
      have h26F := h23F.tr (h26E.wk (W' := [26, 27, 30, 33, 36]) (by first | rfl | simp))
      have z4 : pw_g h26 26 4 = pw_g h 26 4 := by rw [← h26w, pw_g_ne (by omega), ← h23w]; exact pw_g_ne (by omega)
      have z7 : pw_g h26 26 7 = pw_g h 26 7 := by rw [← h26w, pw_g_ne (by omega), ← h23w]; exact pw_g_ne (by omega)
      have z8 : pw_g h26 26 8 = pw_g h 26 8 := by rw [← h26w, pw_g_ne (by omega), ← h23w]; exact pw_g_ne (by omega)
      have z30 : pw_g h26 30 1 = pw_g h 30 1 := by rw [← h26w, pw_g_ne (by omega), ← h23w]; exact pw_g_ne (by omega)
      have z33 : ∀ j : Nat, pw_g h26 33 j = pw_g h 33 j := fun j => by rw [← h26w, pw_g_ne (by omega), ← h23w]; exact pw_g_ne (by omega)
      have z36 : ∀ j : Nat, pw_g h26 36 j = pw_g h 36 j := fun j => by rw [← h26w, pw_g_ne (by omega), ← h23w]; exact pw_g_ne (by omega)
      have zw : ∀ j : Nat, pw_g h26 27 j = pw_g h 27 j := fun j => by rw [← h26w, pw_g_ne (by omega), ← h23w]; exact pw_g_ne (by omega)
      have zS : px_S 26 h26 = px_S 26 h := px_S.eq (c := 26) z4 zw
      have z5 : pw_g h26 26 5 = pw_g h 26 5 + 1 := by rw [← h26w, pw_g_ne (by omega), ← h23w]; exact pw_g_eq (c := 26) (k := 5) I rfl rfl (by omega) (by omega)
      have z6 : pw_g h26 26 6 = (pw_g h23 26 6) + 0 := by rw [← h26w]; exact pw_g_eq (c := 26) (k := 6) h23I rfl rfl (by omega) (by omega)
      refine pw_ld E (pc' := 119) (st' := [.ref 42]) rfl (fun _ => rfl) ?_
      refine pw_ld E (pc' := 120) (st' := [pw_i n3, .ref 42]) rfl (fun _ => rfl) ?_
      refine pw_if E (pc' := 128) rfl (by decide) (by omega) (by omega) ?_ ?_
      · intro hc27
        change n3 = (0 : Int) at hc27
        refine pw_bip E (pc' := 130) rfl rfl (by decide) ?_
        obtain ⟨f28l, f28h, -⟩ := pw_obj (c := 26) h26I rfl
        refine pw_call (m' := 48) (As := [.ref 42, pw_i 9]) (rest := []) (ls'' := [some (.ref 42), some (pw_i 9)]) (Nat.le_trans (by decide) hd) E rfl (fun _ => pw_iV rfl rfl rfl rfl (pw_cellI f28h rfl)) (rfl : pm_ent 48 = some (2, 2, 5, 4, pmc_48)) rfl rfl (cm_48_x26 (pw_dp hd (by decide)) h26I (9) (by omega) (by omega) (by omega)) ?_
        rintro h29 v30 ⟨h29I, h29E, hqpu, rfl⟩
        refine ⟨_, rfl, ?_⟩
        have h29F := h26F.tr (h29E.wk (W' := [26, 27, 30, 33, 36]) (by first | rfl | simp))
        show pw X d h29 47 133 [some (.ref 42), some (.ref 40), some (.ref 46), some (pw_i n3), some (pw_i n4), some (pw_i n5), some (pw_i n6)] [] _
        refine pw_ld E (pc' := 134) (st' := [pw_i 0]) rfl (fun _ => rfl) ?_
        refine pw_iret E rfl ?_
        exfalso
        omega
      · intro hc31
        change ¬ (n3 = (0 : Int)) at hc31
        refine pw_bip E (pc' := 125) rfl rfl (by decide) ?_
        refine pw_goto E (pc' := 130) rfl (by decide) ?_
        obtain ⟨f32l, f32h, -⟩ := pw_obj (c := 26) h26I rfl
        refine pw_call (m' := 48) (As := [.ref 42, pw_i 8]) (rest := []) (ls'' := [some (.ref 42), some (pw_i 8)]) (Nat.le_trans (by decide) hd) E rfl (fun _ => pw_iV rfl rfl rfl rfl (pw_cellI f32h rfl)) (rfl : pm_ent 48 = some (2, 2, 5, 4, pmc_48)) rfl rfl (cm_48_x26 (pw_dp hd (by decide)) h26I (8) (by omega) (by omega) (by omega)) ?_
        rintro h33 v34 ⟨h33I, h33E, hqpu, rfl⟩
        refine ⟨_, rfl, ?_⟩
        have h33F := h26F.tr (h33E.wk (W' := [26, 27, 30, 33, 36]) (by first | rfl | simp))
        show pw X d h33 47 133 [some (.ref 42), some (.ref 40), some (.ref 46), some (pw_i n3), some (pw_i n4), some (pw_i n5), some (pw_i n6)] [] _
        refine pw_ld E (pc' := 134) (st' := [pw_i 0]) rfl (fun _ => rfl) ?_
        refine pw_iret E rfl ?_
        have hS3 : px_S 26 h33 = 8 :: px_S 26 h := (px_S.push (c := 26) (h := h26) (by omega) hqpu.1 hqpu.2.1 hqpu.2.2.1).trans (by rw [zS])
        have p4 := hqpu.1
        have p5 := hqpu.2.2.2 5 (by decide)
        have p6 := hqpu.2.2.2 6 (by decide)
        have p7 := hqpu.2.2.2 7 (by decide)
        have p8 := hqpu.2.2.2 8 (by decide)
        have y30 : pw_g h33 30 1 = pw_g h 30 1 := (pw_Eg (c := 30) h26I h33E rfl rfl 1).trans z30
        have y33 : ∀ j : Nat, pw_g h33 33 j = pw_g h 33 j := fun j => (pw_Eg (c := 33) h26I h33E rfl rfl j).trans (z33 j)
        have y36 : ∀ j : Nat, pw_g h33 36 j = pw_g h 36 j := fun j => (pw_Eg (c := 36) h26I h33E rfl rfl j).trans (z36 j)
        have hIN3 : px_IN 26 h33 st (T + 1) := hIN.dn (x := 8) (o := 0) (by omega) hS3 (by omega) (by omega) (by omega) (by omega) (by omega) y30 y33
        have hC3 : px_C h33 st = px_C h st := px_C.eq y30 y36
        have hst := pt_eoN (F := pt_FF 0) (K := K) (V := V) (d := pw_g h 26 5) (o := pw_g h 26 6) (S := px_S 26 h) (c := px_C h st) (by omega) (by omega) (by omega)
        have d5 : pw_g h33 26 5 = pw_g h 26 5 + 1 := by omega
        have d6 : pw_g h33 26 6 = pw_g h 26 6 := by omega
        exact ⟨h33I, h33F, ⟨_, rfl, by omega, by omega, Or.inr ⟨rfl, (by rw [px_s, hst]; try rfl), (by rw [px_s, hst]; exact ⟨hIN3, (by rw [hS3, hC3, d5, d6]; try rfl), (by show pw_g h33 26 7 = 2 + 0; omega), fun q => absurd (show (0 : Int) = 1 from q) (by decide), (px_B.rf i7).eq y30 y36 y33, by omega⟩)⟩⟩⟩
    · intro hc35
      change ¬ (n4 = (0 : Int)) at hc35
      refine pw_ld E (pc' := 110) (st' := [pw_i 1, pw_i (pw_g h23 26 6), .ref 42]) rfl (fun _ => rfl) ?_
      refine pw_goto E (pc' := 114) rfl (by decide) ?_
      refine pw_add E (pc' := 115) rfl rfl ?_
      refine pw_putI h23I E (c := 26) (k := 6) (pc' := 118) rfl rfl rfl rfl (by omega) (by omega) (by omega) (by omega) rfl rfl ?_
      intro h36I h36E
      generalize h36w : pw_w h23 26 6 (pw_i ((pw_g h23 26 6) + 1)) = h36 at h36I h36E ⊢
      have h36F := h23F.tr (h36E.wk (W' := [26, 27, 30, 33, 36]) (by first | rfl | simp))
      have z4 : pw_g h36 26 4 = pw_g h 26 4 := by rw [← h36w, pw_g_ne (by omega), ← h23w]; exact pw_g_ne (by omega)
      have z7 : pw_g h36 26 7 = pw_g h 26 7 := by rw [← h36w, pw_g_ne (by omega), ← h23w]; exact pw_g_ne (by omega)
      have z8 : pw_g h36 26 8 = pw_g h 26 8 := by rw [← h36w, pw_g_ne (by omega), ← h23w]; exact pw_g_ne (by omega)
      have z30 : pw_g h36 30 1 = pw_g h 30 1 := by rw [← h36w, pw_g_ne (by omega), ← h23w]; exact pw_g_ne (by omega)
      have z33 : ∀ j : Nat, pw_g h36 33 j = pw_g h 33 j := fun j => by rw [← h36w, pw_g_ne (by omega), ← h23w]; exact pw_g_ne (by omega)
      have z36 : ∀ j : Nat, pw_g h36 36 j = pw_g h 36 j := fun j => by rw [← h36w, pw_g_ne (by omega), ← h23w]; exact pw_g_ne (by omega)
      have zw : ∀ j : Nat, pw_g h36 27 j = pw_g h 27 j := fun j => by rw [← h36w, pw_g_ne (by omega), ← h23w]; exact pw_g_ne (by omega)
      have zS : px_S 26 h36 = px_S 26 h := px_S.eq (c := 26) z4 zw
      have z5 : pw_g h36 26 5 = pw_g h 26 5 + 1 := by rw [← h36w, pw_g_ne (by omega), ← h23w]; exact pw_g_eq (c := 26) (k := 5) I rfl rfl (by omega) (by omega)
      have z6 : pw_g h36 26 6 = (pw_g h23 26 6) + 1 := by rw [← h36w]; exact pw_g_eq (c := 26) (k := 6) h23I rfl rfl (by omega) (by omega)
      refine pw_ld E (pc' := 119) (st' := [.ref 42]) rfl (fun _ => rfl) ?_
      refine pw_ld E (pc' := 120) (st' := [pw_i n3, .ref 42]) rfl (fun _ => rfl) ?_
      refine pw_if E (pc' := 128) rfl (by decide) (by omega) (by omega) ?_ ?_
      · intro hc37
        change n3 = (0 : Int) at hc37
        refine pw_bip E (pc' := 130) rfl rfl (by decide) ?_
        obtain ⟨f38l, f38h, -⟩ := pw_obj (c := 26) h36I rfl
        refine pw_call (m' := 48) (As := [.ref 42, pw_i 9]) (rest := []) (ls'' := [some (.ref 42), some (pw_i 9)]) (Nat.le_trans (by decide) hd) E rfl (fun _ => pw_iV rfl rfl rfl rfl (pw_cellI f38h rfl)) (rfl : pm_ent 48 = some (2, 2, 5, 4, pmc_48)) rfl rfl (cm_48_x26 (pw_dp hd (by decide)) h36I (9) (by omega) (by omega) (by omega)) ?_
        rintro h39 v40 ⟨h39I, h39E, hqpu, rfl⟩
        refine ⟨_, rfl, ?_⟩
        have h39F := h36F.tr (h39E.wk (W' := [26, 27, 30, 33, 36]) (by first | rfl | simp))
        show pw X d h39 47 133 [some (.ref 42), some (.ref 40), some (.ref 46), some (pw_i n3), some (pw_i n4), some (pw_i n5), some (pw_i n6)] [] _
        refine pw_ld E (pc' := 134) (st' := [pw_i 0]) rfl (fun _ => rfl) ?_
        refine pw_iret E rfl ?_
        have hS3 : px_S 26 h39 = 9 :: px_S 26 h := (px_S.push (c := 26) (h := h36) (by omega) hqpu.1 hqpu.2.1 hqpu.2.2.1).trans (by rw [zS])
        have p4 := hqpu.1
        have p5 := hqpu.2.2.2 5 (by decide)
        have p6 := hqpu.2.2.2 6 (by decide)
        have p7 := hqpu.2.2.2 7 (by decide)
        have p8 := hqpu.2.2.2 8 (by decide)
        have y30 : pw_g h39 30 1 = pw_g h 30 1 := (pw_Eg (c := 30) h36I h39E rfl rfl 1).trans z30
        have y33 : ∀ j : Nat, pw_g h39 33 j = pw_g h 33 j := fun j => (pw_Eg (c := 33) h36I h39E rfl rfl j).trans (z33 j)
        have y36 : ∀ j : Nat, pw_g h39 36 j = pw_g h 36 j := fun j => (pw_Eg (c := 36) h36I h39E rfl rfl j).trans (z36 j)
        have hIN3 : px_IN 26 h39 st (T + 1) := hIN.dn (x := 9) (o := 1) (by omega) hS3 (by omega) (by omega) (by omega) (by omega) (by omega) y30 y33
        have hC3 : px_C h39 st = px_C h st := px_C.eq y30 y36
        have hst := pt_eoB (F := pt_FF 0) (K := K) (V := V) (d := pw_g h 26 5) (o := pw_g h 26 6) (S := px_S 26 h) (c := px_C h st) (by omega) (by omega) (by omega)
        have d5 : pw_g h39 26 5 = pw_g h 26 5 + 1 := by omega
        have d6 : pw_g h39 26 6 = pw_g h 26 6 + 1 := by omega
        exact ⟨h39I, h39F, ⟨_, rfl, by omega, by omega, Or.inr ⟨rfl, (by rw [px_s, hst]; try rfl), (by rw [px_s, hst]; exact ⟨hIN3, (by rw [hS3, hC3, d5, d6]; try rfl), (by show pw_g h39 26 7 = 2 + 0; omega), fun q => absurd (show (0 : Int) = 1 from q) (by decide), (px_B.rf i7).eq y30 y36 y33, by omega⟩)⟩⟩⟩
      · intro hc41
        change ¬ (n3 = (0 : Int)) at hc41
        refine pw_bip E (pc' := 125) rfl rfl (by decide) ?_
        refine pw_goto E (pc' := 130) rfl (by decide) ?_
        obtain ⟨f42l, f42h, -⟩ := pw_obj (c := 26) h36I rfl
        refine pw_call (m' := 48) (As := [.ref 42, pw_i 8]) (rest := []) (ls'' := [some (.ref 42), some (pw_i 8)]) (Nat.le_trans (by decide) hd) E rfl (fun _ => pw_iV rfl rfl rfl rfl (pw_cellI f42h rfl)) (rfl : pm_ent 48 = some (2, 2, 5, 4, pmc_48)) rfl rfl (cm_48_x26 (pw_dp hd (by decide)) h36I (8) (by omega) (by omega) (by omega)) ?_
        rintro h43 v44 ⟨h43I, h43E, hqpu, rfl⟩
        refine ⟨_, rfl, ?_⟩
        have h43F := h36F.tr (h43E.wk (W' := [26, 27, 30, 33, 36]) (by first | rfl | simp))
        show pw X d h43 47 133 [some (.ref 42), some (.ref 40), some (.ref 46), some (pw_i n3), some (pw_i n4), some (pw_i n5), some (pw_i n6)] [] _
        refine pw_ld E (pc' := 134) (st' := [pw_i 0]) rfl (fun _ => rfl) ?_
        refine pw_iret E rfl ?_
        exfalso
        omega
  have K70 : ∀ (n3 n4 n5 n6 : Int), 0 ≤ n3 → n3 ≤ 1 → 0 ≤ n4 → n4 ≤ 1 → 0 ≤ n5 → n5 ≤ 1 → (-1) ≤ n6 → n6 ≤ 60 → ((n3 = 1 ∧ K = 1 ∧ V = 19741) ∨ (n3 = 0 ∧ ¬ (K = 1 ∧ V = 19741))) → ((n4 = 1 ∧ K = 3 ∧ V = 40) ∨ (n4 = 0 ∧ ¬ (K = 3 ∧ V = 40))) → ((n5 = 1 ∧ K = 2) ∨ (n5 = 0 ∧ K ≠ 2)) → (n6 = px_wn 5 K V) → ((K = 1 ∧ (V = 19741 ∨ 0 ≤ pt_FF 0 V)) ∨ (K = 3 ∧ V = 40) ∨ K = 2) → pw X d h 47 70 [some (.ref 42), some (.ref 40), some (.ref 46), some (pw_i n3), some (pw_i n4), some (pw_i n5), some (pw_i n6)] [] (fun h' v => pw_I h' ∧ pw_E [26, 27, 30, 33, 36] h h' ∧ ∃ a : Int, v = .inl (some (pw_i a)) ∧ 0 ≤ a ∧ a ≤ 5 ∧ ((a ≠ 0 ∧ (pt_es (pt_FF 0) K V (px_s 26 h st 0)).1 = a) ∨ (a = 0 ∧ (pt_es (pt_FF 0) K V (px_s 26 h st 0)).1 = 0 ∧ px_PO 26 st (T + 1) h h' (pt_es (pt_FF 0) K V (px_s 26 h st 0)).2.1 (pt_es (pt_FF 0) K V (px_s 26 h st 0)).2))) := by
    intro n3 n4 n5 n6 n0a n0b n1a n1b n2a n2b n3a n3b y0 y1 y2 y3 y4
    refine pw_ld E (pc' := 71) (st' := [.ref 42]) rfl (fun _ => rfl) ?_
    refine pw_getI2 I E (c := 26) (k := 5) (pc' := 74) rfl rfl rfl rfl rfl rfl (fun hf45a hf45b => ?_)
    refine pw_ld E (pc' := 75) (st' := [pw_i 5, pw_i (pw_g h 26 5)]) rfl (fun _ => rfl) ?_
    refine pw_if2 E (pc' := 80) rfl (by decide) (by omega) (by omega) (by decide) (by decide) ?_ ?_
    · intro hc46
      change pw_g h 26 5 < (5 : Int) at hc46
      refine pw_ld E (pc' := 81) (st' := [pw_i n3]) rfl (fun _ => rfl) ?_
      refine pw_if E (pc' := 89) rfl (by decide) (by omega) (by omega) ?_ ?_
      · intro hc47
        change n3 ≠ (0 : Int) at hc47
        exact K89 (n3) (n4) (n5) (n6) (by omega) (by omega) (by omega) (by omega) (by omega) (by omega) (by omega) (by omega) (by omega) (by omega) (by omega) (by omega) (by omega) (by omega) (by omega)
      · intro hc48
        change ¬ (n3 ≠ (0 : Int)) at hc48
        refine pw_ld E (pc' := 86) (st' := [pw_i n4]) rfl (fun _ => rfl) ?_
        refine pw_if E (pc' := 135) rfl (by decide) (by omega) (by omega) ?_ ?_
        · intro hc49
          change n4 = (0 : Int) at hc49
          exact K135 (n3) (n4) (n5) (n6) (by omega) (by omega) (by omega) (by omega) (by omega) (by omega) (by omega) (by omega) (by omega) (by omega) (by omega) (by omega) (by omega) (by omega) (by omega)
        · intro hc50
          change ¬ (n4 = (0 : Int)) at hc50
          exact K89 (n3) (n4) (n5) (n6) (by omega) (by omega) (by omega) (by omega) (by omega) (by omega) (by omega) (by omega) (by omega) (by omega) (by omega) (by omega) (by omega) (by omega) (by omega)
    · intro hc51
      change ¬ (pw_g h 26 5 < (5 : Int)) at hc51
      refine pw_ld E (pc' := 79) (st' := [pw_i 5]) rfl (fun _ => rfl) ?_
      refine pw_iret E rfl ?_
      exact ⟨I, E0, ⟨_, rfl, by omega, by omega, Or.inl ⟨by decide, by rw [px_s, pt_eoD (by omega) (by omega)]; try rfl⟩⟩⟩
  have K48 : ∀ (n3 n4 n5 n6 : Int), 0 ≤ n3 → n3 ≤ 1 → 0 ≤ n4 → n4 ≤ 1 → 0 ≤ n5 → n5 ≤ 1 → (-1) ≤ n6 → n6 ≤ 60 → ((n3 = 1 ∧ K = 1 ∧ V = 19741) ∨ (n3 = 0 ∧ ¬ (K = 1 ∧ V = 19741))) → ((n4 = 1 ∧ K = 3 ∧ V = 40) ∨ (n4 = 0 ∧ ¬ (K = 3 ∧ V = 40))) → ((n5 = 1 ∧ K = 2) ∨ (n5 = 0 ∧ K ≠ 2)) → (n6 = px_wn 5 K V) → pw X d h 47 48 [some (.ref 42), some (.ref 40), some (.ref 46), some (pw_i n3), some (pw_i n4), some (pw_i n5), some (pw_i n6)] [] (fun h' v => pw_I h' ∧ pw_E [26, 27, 30, 33, 36] h h' ∧ ∃ a : Int, v = .inl (some (pw_i a)) ∧ 0 ≤ a ∧ a ≤ 5 ∧ ((a ≠ 0 ∧ (pt_es (pt_FF 0) K V (px_s 26 h st 0)).1 = a) ∨ (a = 0 ∧ (pt_es (pt_FF 0) K V (px_s 26 h st 0)).1 = 0 ∧ px_PO 26 st (T + 1) h h' (pt_es (pt_FF 0) K V (px_s 26 h st 0)).2.1 (pt_es (pt_FF 0) K V (px_s 26 h st 0)).2))) := by
    intro n3 n4 n5 n6 n0a n0b n1a n1b n2a n2b n3a n3b y0 y1 y2 y3
    refine pw_ld E (pc' := 49) (st' := [pw_i n3]) rfl (fun _ => rfl) ?_
    refine pw_if E (pc' := 70) rfl (by decide) (by omega) (by omega) ?_ ?_
    · intro hc52
      change n3 ≠ (0 : Int) at hc52
      exact K70 (n3) (n4) (n5) (n6) (by omega) (by omega) (by omega) (by omega) (by omega) (by omega) (by omega) (by omega) (by omega) (by omega) (by omega) (by omega) (by omega)
    · intro hc53
      change ¬ (n3 ≠ (0 : Int)) at hc53
      refine pw_ld E (pc' := 54) (st' := [pw_i n4]) rfl (fun _ => rfl) ?_
      refine pw_if E (pc' := 70) rfl (by decide) (by omega) (by omega) ?_ ?_
      · intro hc54
        change n4 ≠ (0 : Int) at hc54
        exact K70 (n3) (n4) (n5) (n6) (by omega) (by omega) (by omega) (by omega) (by omega) (by omega) (by omega) (by omega) (by omega) (by omega) (by omega) (by omega) (by omega)
      · intro hc55
        change ¬ (n4 ≠ (0 : Int)) at hc55
        refine pw_ld E (pc' := 59) (st' := [pw_i n5]) rfl (fun _ => rfl) ?_
        refine pw_if E (pc' := 70) rfl (by decide) (by omega) (by omega) ?_ ?_
        · intro hc56
          change n5 ≠ (0 : Int) at hc56
          exact K70 (n3) (n4) (n5) (n6) (by omega) (by omega) (by omega) (by omega) (by omega) (by omega) (by omega) (by omega) (by omega) (by omega) (by omega) (by omega) (by omega)
        · intro hc57
          change ¬ (n5 ≠ (0 : Int)) at hc57
          refine pw_ld E (pc' := 64) (st' := [pw_i n6]) rfl (fun _ => rfl) ?_
          refine pw_ld E (pc' := 65) (st' := [pw_i ((-1)), pw_i n6]) rfl (fun _ => rfl) ?_
          refine pw_if2 E (pc' := 70) rfl (by decide) (by omega) (by omega) (by decide) (by decide) ?_ ?_
          · intro hc58
            change n6 ≠ ((-1) : Int) at hc58
            exact K70 (n3) (n4) (n5) (n6) (by omega) (by omega) (by omega) (by omega) (by omega) (by omega) (by omega) (by omega) (by omega) (by omega) (by omega) (by omega) (by omega)
          · intro hc59
            change ¬ (n6 ≠ ((-1) : Int)) at hc59
            refine pw_ld E (pc' := 69) (st' := [pw_i 1]) rfl (fun _ => rfl) ?_
            refine pw_iret E rfl ?_
            exact ⟨I, E0, ⟨_, rfl, by omega, by omega, Or.inl ⟨by decide, by rw [px_s, pt_eoW (by omega) (by omega) (by omega) (fun q => by omega)]; try rfl⟩⟩⟩
  have K38 : ∀ (n3 n4 n5 : Int), 0 ≤ n3 → n3 ≤ 1 → 0 ≤ n4 → n4 ≤ 1 → 0 ≤ n5 → n5 ≤ 1 → ((n3 = 1 ∧ K = 1 ∧ V = 19741) ∨ (n3 = 0 ∧ ¬ (K = 1 ∧ V = 19741))) → ((n4 = 1 ∧ K = 3 ∧ V = 40) ∨ (n4 = 0 ∧ ¬ (K = 3 ∧ V = 40))) → ((n5 = 1 ∧ K = 2) ∨ (n5 = 0 ∧ K ≠ 2)) → pw X d h 47 38 [some (.ref 42), some (.ref 40), some (.ref 46), some (pw_i n3), some (pw_i n4), some (pw_i n5), none] [] (fun h' v => pw_I h' ∧ pw_E [26, 27, 30, 33, 36] h h' ∧ ∃ a : Int, v = .inl (some (pw_i a)) ∧ 0 ≤ a ∧ a ≤ 5 ∧ ((a ≠ 0 ∧ (pt_es (pt_FF 0) K V (px_s 26 h st 0)).1 = a) ∨ (a = 0 ∧ (pt_es (pt_FF 0) K V (px_s 26 h st 0)).1 = 0 ∧ px_PO 26 st (T + 1) h h' (pt_es (pt_FF 0) K V (px_s 26 h st 0)).2.1 (pt_es (pt_FF 0) K V (px_s 26 h st 0)).2))) := by
    intro n3 n4 n5 n0a n0b n1a n1b n2a n2b y0 y1 y2
    refine pw_ld E (pc' := 39) (st' := [.ref 40]) rfl (fun _ => rfl) ?_
    refine pw_ld E (pc' := 40) (st' := [.ref 42, .ref 40]) rfl (fun _ => rfl) ?_
    refine pw_getR (b := 5) I E (c := 26) (k := 1) (pc' := 43) rfl rfl rfl rfl rfl rfl rfl ?_
    obtain ⟨f60l, f60h, -⟩ := pw_obj (c := 24) I rfl
    refine pw_call (m' := 108) (As := [.ref 40, .ref 5]) (rest := []) (ls'' := [some (.ref 40), some (.ref 5), none, none, none, none, none]) (Nat.le_trans (by decide) hd) E rfl (fun _ => pw_iV rfl rfl rfl rfl (pw_cellI f60h rfl)) (rfl : pm_ent 108 = some (2, 7, 9, 0, pmc_108)) rfl rfl (cm_108_w (pw_dp hd (by decide)) I hX 5 (by omega) (by omega) K V hTR hXs (by decide)) ?_
    rintro u62 v61 ⟨rfl, x63, rfl, hx63a, hx63b, hx63r⟩
    refine ⟨_, rfl, ?_⟩
    show pw X d h 47 46 [some (.ref 42), some (.ref 40), some (.ref 46), some (pw_i n3), some (pw_i n4), some (pw_i n5), none] [pw_i x63] _
    change x63 = px_wn 5 K V at hx63r
    refine pw_ist E (pc' := 48) (ls' := [some (.ref 42), some (.ref 40), some (.ref 46), some (pw_i n3), some (pw_i n4), some (pw_i n5), some (pw_i x63)]) rfl rfl rfl rfl ?_
    exact K48 (n3) (n4) (n5) (x63) (by omega) (by omega) (by omega) (by omega) (by omega) (by omega) (by omega) (by omega) (by omega) (by omega) (by omega) (by omega)
  have K15 : ∀ (n3 : Int), 0 ≤ n3 → n3 ≤ 1 → ((n3 = 1 ∧ K = 1 ∧ V = 19741) ∨ (n3 = 0 ∧ ¬ (K = 1 ∧ V = 19741))) → pw X d h 47 15 [some (.ref 42), some (.ref 40), some (.ref 46), some (pw_i n3), none, none, none] [] (fun h' v => pw_I h' ∧ pw_E [26, 27, 30, 33, 36] h h' ∧ ∃ a : Int, v = .inl (some (pw_i a)) ∧ 0 ≤ a ∧ a ≤ 5 ∧ ((a ≠ 0 ∧ (pt_es (pt_FF 0) K V (px_s 26 h st 0)).1 = a) ∨ (a = 0 ∧ (pt_es (pt_FF 0) K V (px_s 26 h st 0)).1 = 0 ∧ px_PO 26 st (T + 1) h h' (pt_es (pt_FF 0) K V (px_s 26 h st 0)).2.1 (pt_es (pt_FF 0) K V (px_s 26 h st 0)).2))) := by
    intro n3 n0a n0b y0
    refine pw_ld E (pc' := 16) (st' := [.ref 40]) rfl (fun _ => rfl) ?_
    refine pw_bip E (pc' := 18) rfl rfl (by decide) ?_
    obtain ⟨f64l, f64h, -⟩ := pw_obj (c := 24) I rfl
    refine pw_call (m' := 109) (As := [.ref 40, pw_i 40]) (rest := []) (ls'' := [some (.ref 40), some (pw_i 40)]) (Nat.le_trans (by decide) hd) E rfl (fun _ => pw_iV rfl rfl rfl rfl (pw_cellI f64h rfl)) (rfl : pm_ent 109 = some (2, 2, 9, 1, pmc_109)) rfl rfl (cm_109_x24 (pw_dp hd (by decide)) I (40) (by omega) (by omega)) ?_
    rintro u66 v65 ⟨rfl, x67, rfl, hx67a, hx67b, hx67r⟩
    refine ⟨_, rfl, ?_⟩
    show pw X d h 47 21 [some (.ref 42), some (.ref 40), some (.ref 46), some (pw_i n3), none, none, none] [pw_i x67] _
    change (x67 = 1 ∧ pw_g h 24 4 = 3 ∧ pw_g h 24 5 = 40) ∨ (x67 = 0 ∧ ¬ (pw_g h 24 4 = 3 ∧ pw_g h 24 5 = 40)) at hx67r
    refine pw_ist E (pc' := 23) (ls' := [some (.ref 42), some (.ref 40), some (.ref 46), some (pw_i n3), some (pw_i x67), none, none]) rfl rfl rfl rfl ?_
    refine pw_ld E (pc' := 24) (st' := [.ref 40]) rfl (fun _ => rfl) ?_
    obtain ⟨f68l, f68h, -⟩ := pw_obj (c := 24) I rfl
    refine pw_call (m' := 107) (As := [.ref 40]) (rest := []) (ls'' := [some (.ref 40)]) (Nat.le_trans (by decide) hd) E rfl (fun _ => pw_iV rfl rfl rfl rfl (pw_cellI f68h rfl)) (rfl : pm_ent 107 = some (1, 1, 9, 0, pmc_107)) rfl rfl (cm_107_x24 (pw_dp hd (by decide)) I ) ?_
    rintro u70 v69 ⟨rfl, x71, rfl, hx71a, hx71b, hx71r⟩
    refine ⟨_, rfl, ?_⟩
    show pw X d h 47 27 [some (.ref 42), some (.ref 40), some (.ref 46), some (pw_i n3), some (pw_i x67), none, none] [pw_i x71] _
    change x71 = pw_g h 24 4 at hx71r
    refine pw_ld E (pc' := 28) (st' := [pw_i 2, pw_i x71]) rfl (fun _ => rfl) ?_
    refine pw_if2 E (pc' := 35) rfl (by decide) (by omega) (by omega) (by decide) (by decide) ?_ ?_
    · intro hc72
      change x71 ≠ (2 : Int) at hc72
      refine pw_ld E (pc' := 36) (st' := [pw_i 0]) rfl (fun _ => rfl) ?_
      refine pw_ist E (pc' := 38) (ls' := [some (.ref 42), some (.ref 40), some (.ref 46), some (pw_i n3), some (pw_i x67), some (pw_i 0), none]) rfl rfl rfl rfl ?_
      exact K38 (n3) (x67) (0) (by omega) (by omega) (by omega) (by omega) (by omega) (by omega) (by omega) (by omega) (by omega)
    · intro hc73
      change ¬ (x71 ≠ (2 : Int)) at hc73
      refine pw_ld E (pc' := 32) (st' := [pw_i 1]) rfl (fun _ => rfl) ?_
      refine pw_goto E (pc' := 36) rfl (by decide) ?_
      refine pw_ist E (pc' := 38) (ls' := [some (.ref 42), some (.ref 40), some (.ref 46), some (pw_i n3), some (pw_i x67), some (pw_i 1), none]) rfl rfl rfl rfl ?_
      exact K38 (n3) (x67) (1) (by omega) (by omega) (by omega) (by omega) (by omega) (by omega) (by omega) (by omega) (by omega)
  refine pw_ld E (pc' := 1) (st' := [.ref 40]) rfl (fun _ => rfl) ?_
  refine pw_ld E (pc' := 3) (st' := [.ref 10, .ref 40]) rfl (fun _ => rfl) ?_
  obtain ⟨f74l, f74h, -⟩ := pw_obj (c := 24) I rfl
  refine pw_call (m' := 108) (As := [.ref 40, .ref 10]) (rest := []) (ls'' := [some (.ref 40), some (.ref 10), none, none, none, none, none]) (Nat.le_trans (by decide) hd) E rfl (fun _ => pw_iV rfl rfl rfl rfl (pw_cellI f74h rfl)) (rfl : pm_ent 108 = some (2, 7, 9, 0, pmc_108)) rfl rfl (cm_108_w (pw_dp hd (by decide)) I hX 10 (by omega) (by omega) K V hTR hXs (by decide)) ?_
  rintro u76 v75 ⟨rfl, x77, rfl, hx77a, hx77b, hx77r⟩
  refine ⟨_, rfl, ?_⟩
  show pw X d h 47 6 [some (.ref 42), some (.ref 40), some (.ref 46), none, none, none, none] [pw_i x77] _
  change x77 = px_wn 10 K V at hx77r
  refine pw_if E (pc' := 13) rfl (by decide) (by omega) (by omega) ?_ ?_
  · intro hc78
    change x77 ≠ (0 : Int) at hc78
    refine pw_ld E (pc' := 14) (st' := [pw_i 0]) rfl (fun _ => rfl) ?_
    refine pw_istn E (pc' := 15) (ls' := [some (.ref 42), some (.ref 40), some (.ref 46), some (pw_i 0), none, none, none]) rfl rfl rfl rfl ?_
    exact K15 (0) (by omega) (by omega) (by omega)
  · intro hc79
    change ¬ (x77 ≠ (0 : Int)) at hc79
    refine pw_ld E (pc' := 10) (st' := [pw_i 1]) rfl (fun _ => rfl) ?_
    refine pw_goto E (pc' := 14) rfl (by decide) ?_
    refine pw_istn E (pc' := 15) (ls' := [some (.ref 42), some (.ref 40), some (.ref 46), some (pw_i 1), none, none, none]) rfl rfl rfl rfl ?_
    exact K15 (1) (by omega) (by omega) (by omega)
set_option maxHeartbeats 4000000 in
theorem cm_47_x28 {X : List (Nat × List Value)} {d : Nat} {h : pm_H} (hd : 3 ≤ d) (I : pw_I h) (hX : pw_Xk X) (K V st T : Int) (hp0 : px_TR K V h) (hp1 : pw_Xs X) (hp2 : px_IN 28 h st T) (hp3 : T ≤ 999) (hp4 : pw_g h 28 7 = 2) : pw X d h 47 0 [some (.ref 44), some (.ref 40), some (.ref 46), none, none, none, none] [] (fun h' v => pw_I h' ∧ pw_E [28, 29, 30, 33, 36] h h' ∧ ∃ a : Int, v = .inl (some (pw_i a)) ∧ 0 ≤ a ∧ a ≤ 5 ∧ ((a ≠ 0 ∧ (pt_es (pt_FF 1) K V (px_s 28 h st 0)).1 = a) ∨ (a = 0 ∧ (pt_es (pt_FF 1) K V (px_s 28 h st 0)).1 = 0 ∧ px_PO 28 st (T + 1) h h' (pt_es (pt_FF 1) K V (px_s 28 h st 0)).2.1 (pt_es (pt_FF 1) K V (px_s 28 h st 0)).2))) := by
  have E : pm_ent 47 = some (3, 7, 5, 0, pmc_47) := rfl
  have E0 : pw_E [28, 29, 30, 33, 36] h h := pw_E.rf _ _
  have hTR := hp0
  have hXs := hp1
  have hIN := hp2
  have hk := hp0.k
  have w10 := px_wn10 K V
  have hwf := px_wn7 K V
  have hfB := pt_FFB (wr := 1) (V := V)
  have hoB := px_dcB (px_S 28 h)
  have hm4 := (pw_gI (c := 28) (k := 4) I rfl rfl).1
  have hroom := hIN.room
  obtain ⟨i1, i2, i3, i4, i5, i6, i7, i8⟩ := hp2
  have K135 : ∀ (n3 n4 n5 n6 : Int), 0 ≤ n3 → n3 ≤ 1 → 0 ≤ n4 → n4 ≤ 1 → 0 ≤ n5 → n5 ≤ 1 → (-1) ≤ n6 → n6 ≤ 60 → ((n3 = 1 ∧ K = 1 ∧ V = 19741) ∨ (n3 = 0 ∧ ¬ (K = 1 ∧ V = 19741))) → ((n4 = 1 ∧ K = 3 ∧ V = 40) ∨ (n4 = 0 ∧ ¬ (K = 3 ∧ V = 40))) → ((n5 = 1 ∧ K = 2) ∨ (n5 = 0 ∧ K ≠ 2)) → (n6 = px_wn 7 K V) → ((K = 1 ∧ (V = 19741 ∨ 0 ≤ pt_FF 1 V)) ∨ (K = 3 ∧ V = 40) ∨ K = 2) → (n3 = 0 ∧ n4 = 0) → (pw_g h 28 5 ≤ 4) → pw X d h 47 135 [some (.ref 44), some (.ref 40), some (.ref 46), some (pw_i n3), some (pw_i n4), some (pw_i n5), some (pw_i n6)] [] (fun h' v => pw_I h' ∧ pw_E [28, 29, 30, 33, 36] h h' ∧ ∃ a : Int, v = .inl (some (pw_i a)) ∧ 0 ≤ a ∧ a ≤ 5 ∧ ((a ≠ 0 ∧ (pt_es (pt_FF 1) K V (px_s 28 h st 0)).1 = a) ∨ (a = 0 ∧ (pt_es (pt_FF 1) K V (px_s 28 h st 0)).1 = 0 ∧ px_PO 28 st (T + 1) h h' (pt_es (pt_FF 1) K V (px_s 28 h st 0)).2.1 (pt_es (pt_FF 1) K V (px_s 28 h st 0)).2))) := by
    intro n3 n4 n5 n6 n0a n0b n1a n1b n2a n2b n3a n3b y0 y1 y2 y3 y4 y5 y6
    refine pw_ld E (pc' := 136) (st' := [.ref 46]) rfl (fun _ => rfl) ?_
    refine pw_ld E (pc' := 137) (st' := [.ref 44, .ref 46]) rfl (fun _ => rfl) ?_
    refine pw_getI2 I E (c := 28) (k := 8) (pc' := 140) rfl rfl rfl rfl rfl rfl (fun hf1a hf1b => ?_)
    refine pw_ld E (pc' := 142) (st' := [pw_i n5, pw_i (pw_g h 28 8), .ref 46]) rfl (fun _ => rfl) ?_
    refine pw_if E (pc' := 152) rfl (by decide) (by omega) (by omega) ?_ ?_
    · intro hc2
      change n5 = (0 : Int) at hc2
      refine pw_sip E (pc' := 155) rfl rfl (by decide) ?_
      refine pw_ld E (pc' := 157) (st' := [pw_i n6, pw_i 10000, pw_i (pw_g h 28 8), .ref 46]) rfl (fun _ => rfl) ?_
      refine pw_add E (pc' := 158) rfl rfl ?_
      obtain ⟨f3l, f3h, -⟩ := pw_obj (c := 30) I rfl
      refine pw_call (m' := 71) (As := [.ref 46, pw_i (pw_g h 28 8), pw_i (10000 + n6)]) (rest := []) (ls'' := [some (.ref 46), some (pw_i (pw_g h 28 8)), some (pw_i (10000 + n6))]) (Nat.le_trans (by decide) hd) E rfl (fun _ => pw_iV rfl rfl rfl rfl (pw_cellI f3h rfl)) (rfl : pm_ent 71 = some (3, 3, 7, 4, pmc_71)) rfl rfl (cm_71_x (pw_dp hd (by decide)) I (pw_g h 28 8) (by omega) (by omega) (10000 + n6) (by omega) (by omega) (by omega)) ?_
      rintro h4 v5 ⟨h4I, h4E, hqem, rfl⟩
      refine ⟨_, rfl, ?_⟩
      have h4F := E0.tr (h4E.wk (W' := [28, 29, 30, 33, 36]) (by first | rfl | simp))
      show pw X d h4 47 161 [some (.ref 44), some (.ref 40), some (.ref 46), some (pw_i n3), some (pw_i n4), some (pw_i n5), some (pw_i n6)] [] _
      have hc1 : ∀ k : Nat, pw_g h4 28 k = pw_g h 28 k := fun k => pw_Eg (c := 28) I h4E rfl rfl k
      have hw1 : ∀ j : Nat, pw_g h4 29 j = pw_g h 29 j := fun j => pw_Eg (c := 29) I h4E rfl rfl j
      obtain ⟨hIN1, hS1, hC1, hB1⟩ := hIN.em hqem hc1 hw1
      have hIN1c := hIN1
      have hc15 := hc1 5
      have hc16 := hc1 6
      have hc18 := hc1 8
      obtain ⟨j1, j2, j3, j4, j5, j6, j7, j8⟩ := hIN1c
      refine pw_ld E (pc' := 162) (st' := [.ref 44]) rfl (fun _ => rfl) ?_
      refine pw_ld E (pc' := 163) (st' := [.ref 46, .ref 44]) rfl (fun _ => rfl) ?_
      have he6 : pw_g h4 28 8 = pw_g h 28 8 := pw_Eg (c := 28) I h4E rfl rfl 8
      obtain ⟨f7l, f7h, -⟩ := pw_obj (c := 28) h4I rfl
      refine pw_call (m' := 49) (As := [.ref 44, .ref 46]) (rest := []) (ls'' := [some (.ref 44), some (.ref 46)]) (Nat.le_trans (by decide) hd) E rfl (fun _ => pw_iV rfl rfl rfl rfl (pw_cellI f7h rfl)) (rfl : pm_ent 49 = some (2, 2, 5, 4, pmc_49)) rfl rfl (cm_49_x28 (pw_dp hd (by decide)) h4I st (by omega) (by omega) (by omega) j7 j2 (by omega)) ?_
      rintro h8 v9 ⟨h8I, h8E, hqep, rfl⟩
      refine ⟨_, rfl, ?_⟩
      have h8F := h4F.tr (h8E.wk (W' := [28, 29, 30, 33, 36]) (by first | rfl | simp))
      show pw X d h8 47 166 [some (.ref 44), some (.ref 40), some (.ref 46), some (pw_i n3), some (pw_i n4), some (pw_i n5), some (pw_i n6)] [] _
      refine pw_ld E (pc' := 167) (st' := [pw_i 0]) rfl (fun _ => rfl) ?_
      refine pw_iret E rfl ?_
      obtain ⟨hIN2, n2, e26, e28⟩ := hIN1.ep hqep
      have q7 := hqep.2.2.2.1
      have hst := pt_eoF (F := pt_FF 1) (K := K) (V := V) (d := pw_g h 28 5) (o := pw_g h 28 6) (S := px_S 28 h) (c := px_C h st) (by omega) (by omega) (by omega) (by omega)
      have hfi : (1, px_S 28 h8, pw_g h8 28 5, pw_g h8 28 6, px_C h8 st) = pt_fin (px_S 28 h) (pw_g h 28 5) (pw_g h 28 6) ((10000 + pt_FF 1 V) :: px_C h st) := by
        have w := hqep.1
        rw [hS1, hC1, hc1 5, show 10000 + n6 = (10000 + pt_FF 1 V) by omega] at w
        unfold pt_fin
        rw [w, show pw_g h8 28 6 = pw_g h 28 6 by omega]
      exact ⟨h8I, h8F, ⟨_, rfl, by omega, by omega, Or.inr ⟨rfl, (by rw [px_s, hst]; try rfl), (by rw [px_s, hst]; exact ⟨hIN2, hfi, (by show pw_g h8 28 7 = 2 + 1; omega), fun _ => n2, hB1.tr (hc1 8) hqep.2.2.1, by omega⟩)⟩⟩⟩
    · intro hc10
      change ¬ (n5 = (0 : Int)) at hc10
      refine pw_ld E (pc' := 146) (st' := [.ref 40, pw_i (pw_g h 28 8), .ref 46]) rfl (fun _ => rfl) ?_
      obtain ⟨f11l, f11h, -⟩ := pw_obj (c := 24) I rfl
      refine pw_call (m' := 110) (As := [.ref 40]) (rest := [pw_i (pw_g h 28 8), .ref 46]) (ls'' := [some (.ref 40)]) (Nat.le_trans (by decide) hd) E rfl (fun _ => pw_iV rfl rfl rfl rfl (pw_cellI f11h rfl)) (rfl : pm_ent 110 = some (1, 1, 9, 0, pmc_110)) rfl rfl (cm_110_x24 (pw_dp hd (by decide)) I ) ?_
      rintro u13 v12 ⟨rfl, x14, rfl, hx14a, hx14b, hx14r⟩
      refine ⟨_, rfl, ?_⟩
      show pw X d h 47 149 [some (.ref 44), some (.ref 40), some (.ref 46), some (pw_i n3), some (pw_i n4), some (pw_i n5), some (pw_i n6)] [pw_i x14, pw_i (pw_g h 28 8), .ref 46] _
      change x14 = pw_g h 24 5 at hx14r
      refine pw_goto E (pc' := 158) rfl (by decide) ?_
      obtain ⟨f15l, f15h, -⟩ := pw_obj (c := 30) I rfl
      refine pw_call (m' := 71) (As := [.ref 46, pw_i (pw_g h 28 8), pw_i x14]) (rest := []) (ls'' := [some (.ref 46), some (pw_i (pw_g h 28 8)), some (pw_i x14)]) (Nat.le_trans (by decide) hd) E rfl (fun _ => pw_iV rfl rfl rfl rfl (pw_cellI f15h rfl)) (rfl : pm_ent 71 = some (3, 3, 7, 4, pmc_71)) rfl rfl (cm_71_x (pw_dp hd (by decide)) I (pw_g h 28 8) (by omega) (by omega) (x14) (by omega) (by omega) (by omega)) ?_
      rintro h16 v17 ⟨h16I, h16E, hqem, rfl⟩
      refine ⟨_, rfl, ?_⟩
      have h16F := E0.tr (h16E.wk (W' := [28, 29, 30, 33, 36]) (by first | rfl | simp))
      show pw X d h16 47 161 [some (.ref 44), some (.ref 40), some (.ref 46), some (pw_i n3), some (pw_i n4), some (pw_i n5), some (pw_i n6)] [] _
      have hc1 : ∀ k : Nat, pw_g h16 28 k = pw_g h 28 k := fun k => pw_Eg (c := 28) I h16E rfl rfl k
      have hw1 : ∀ j : Nat, pw_g h16 29 j = pw_g h 29 j := fun j => pw_Eg (c := 29) I h16E rfl rfl j
      obtain ⟨hIN1, hS1, hC1, hB1⟩ := hIN.em hqem hc1 hw1
      have hIN1c := hIN1
      have hc15 := hc1 5
      have hc16 := hc1 6
      have hc18 := hc1 8
      obtain ⟨j1, j2, j3, j4, j5, j6, j7, j8⟩ := hIN1c
      refine pw_ld E (pc' := 162) (st' := [.ref 44]) rfl (fun _ => rfl) ?_
      refine pw_ld E (pc' := 163) (st' := [.ref 46, .ref 44]) rfl (fun _ => rfl) ?_
      have he18 : pw_g h16 28 8 = pw_g h 28 8 := pw_Eg (c := 28) I h16E rfl rfl 8
      obtain ⟨f19l, f19h, -⟩ := pw_obj (c := 28) h16I rfl
      refine pw_call (m' := 49) (As := [.ref 44, .ref 46]) (rest := []) (ls'' := [some (.ref 44), some (.ref 46)]) (Nat.le_trans (by decide) hd) E rfl (fun _ => pw_iV rfl rfl rfl rfl (pw_cellI f19h rfl)) (rfl : pm_ent 49 = some (2, 2, 5, 4, pmc_49)) rfl rfl (cm_49_x28 (pw_dp hd (by decide)) h16I st (by omega) (by omega) (by omega) j7 j2 (by omega)) ?_
      rintro h20 v21 ⟨h20I, h20E, hqep, rfl⟩
      refine ⟨_, rfl, ?_⟩
      have h20F := h16F.tr (h20E.wk (W' := [28, 29, 30, 33, 36]) (by first | rfl | simp))
      show pw X d h20 47 166 [some (.ref 44), some (.ref 40), some (.ref 46), some (pw_i n3), some (pw_i n4), some (pw_i n5), some (pw_i n6)] [] _
      refine pw_ld E (pc' := 167) (st' := [pw_i 0]) rfl (fun _ => rfl) ?_
      refine pw_iret E rfl ?_
      obtain ⟨hIN2, n2, e26, e28⟩ := hIN1.ep hqep
      have q7 := hqep.2.2.2.1
      have hst := pt_eoV (F := pt_FF 1) (K := K) (V := V) (d := pw_g h 28 5) (o := pw_g h 28 6) (S := px_S 28 h) (c := px_C h st) (by omega) (by omega)
      have hfi : (1, px_S 28 h20, pw_g h20 28 5, pw_g h20 28 6, px_C h20 st) = pt_fin (px_S 28 h) (pw_g h 28 5) (pw_g h 28 6) (V :: px_C h st) := by
        have w := hqep.1
        rw [hS1, hC1, hc1 5, show x14 = V by omega] at w
        unfold pt_fin
        rw [w, show pw_g h20 28 6 = pw_g h 28 6 by omega]
      exact ⟨h20I, h20F, ⟨_, rfl, by omega, by omega, Or.inr ⟨rfl, (by rw [px_s, hst]; try rfl), (by rw [px_s, hst]; exact ⟨hIN2, hfi, (by show pw_g h20 28 7 = 2 + 1; omega), fun _ => n2, hB1.tr (hc1 8) hqep.2.2.1, by omega⟩)⟩⟩⟩
  have K89 : ∀ (n3 n4 n5 n6 : Int), 0 ≤ n3 → n3 ≤ 1 → 0 ≤ n4 → n4 ≤ 1 → 0 ≤ n5 → n5 ≤ 1 → (-1) ≤ n6 → n6 ≤ 60 → ((n3 = 1 ∧ K = 1 ∧ V = 19741) ∨ (n3 = 0 ∧ ¬ (K = 1 ∧ V = 19741))) → ((n4 = 1 ∧ K = 3 ∧ V = 40) ∨ (n4 = 0 ∧ ¬ (K = 3 ∧ V = 40))) → ((n5 = 1 ∧ K = 2) ∨ (n5 = 0 ∧ K ≠ 2)) → (n6 = px_wn 7 K V) → ((K = 1 ∧ (V = 19741 ∨ 0 ≤ pt_FF 1 V)) ∨ (K = 3 ∧ V = 40) ∨ K = 2) → (n3 ≠ 0 ∨ n4 ≠ 0) → (pw_g h 28 5 ≤ 4) → pw X d h 47 89 [some (.ref 44), some (.ref 40), some (.ref 46), some (pw_i n3), some (pw_i n4), some (pw_i n5), some (pw_i n6)] [] (fun h' v => pw_I h' ∧ pw_E [28, 29, 30, 33, 36] h h' ∧ ∃ a : Int, v = .inl (some (pw_i a)) ∧ 0 ≤ a ∧ a ≤ 5 ∧ ((a ≠ 0 ∧ (pt_es (pt_FF 1) K V (px_s 28 h st 0)).1 = a) ∨ (a = 0 ∧ (pt_es (pt_FF 1) K V (px_s 28 h st 0)).1 = 0 ∧ px_PO 28 st (T + 1) h h' (pt_es (pt_FF 1) K V (px_s 28 h st 0)).2.1 (pt_es (pt_FF 1) K V (px_s 28 h st 0)).2))) := by
    intro n3 n4 n5 n6 n0a n0b n1a n1b n2a n2b n3a n3b y0 y1 y2 y3 y4 y5 y6
    refine pw_ld E (pc' := 90) (st' := [.ref 44]) rfl (fun _ => rfl) ?_
    refine pw_ld E (pc' := 91) (st' := [.ref 44, .ref 44]) rfl (fun _ => rfl) ?_
    refine pw_getI2 I E (c := 28) (k := 5) (pc' := 94) rfl rfl rfl rfl rfl rfl (fun hf22a hf22b => ?_)
    refine pw_ld E (pc' := 95) (st' := [pw_i 1, pw_i (pw_g h 28 5), .ref 44]) rfl (fun _ => rfl) ?_
    refine pw_add E (pc' := 96) rfl rfl ?_
    refine pw_putI I E (c := 28) (k := 5) (pc' := 99) rfl rfl rfl rfl (by omega) (by omega) (by omega) (by omega) rfl rfl ?_
    intro h23I h23E
    generalize h23w : pw_w h 28 5 (pw_i ((pw_g h 28 5) + 1)) = h23 at h23I h23E ⊢
    have h23F := E0.tr (h23E.wk (W' := [28, 29, 30, 33, 36]) (by first | rfl | simp))
    refine pw_ld E (pc' := 100) (st' := [.ref 44]) rfl (fun _ => rfl) ?_
    refine pw_ld E (pc' := 101) (st' := [.ref 44, .ref 44]) rfl (fun _ => rfl) ?_
    have z6a : pw_g h23 28 6 = pw_g h 28 6 := by rw [← h23w]; exact pw_g_ne (by omega)
    refine pw_getI2 h23I E (c := 28) (k := 6) (pc' := 104) rfl rfl rfl rfl rfl rfl (fun hf24a hf24b => ?_)
    refine pw_ld E (pc' := 106) (st' := [pw_i n4, pw_i (pw_g h23 28 6), .ref 44]) rfl (fun _ => rfl) ?_
    refine pw_if E (pc' := 113) rfl (by decide) (by omega) (by omega) ?_ ?_
    · intro hc25
      change n4 = (0 : Int) at hc25
      refine pw_ld E (pc' := 114) (st' := [pw_i 0, pw_i (pw_g h23 28 6), .ref 44]) rfl (fun _ => rfl) ?_
      refine pw_add E (pc' := 115) rfl rfl ?_
      refine pw_putI h23I E (c := 28) (k := 6) (pc' := 118) rfl rfl rfl rfl (by omega) (by omega) (by omega) (by omega) rfl rfl ?_
      intro h26I h26E
      generalize h26w : pw_w h23 28 6 (pw_i ((pw_g h23 28 6) + 0)) = h26 at h26I h26E ⊢
      have h26F := h23F.tr (h26E.wk (W' := [28, 29, 30, 33, 36]) (by first | rfl | simp))
      have z4 : pw_g h26 28 4 = pw_g h 28 4 := by rw [← h26w, pw_g_ne (by omega), ← h23w]; exact pw_g_ne (by omega)
      have z7 : pw_g h26 28 7 = pw_g h 28 7 := by rw [← h26w, pw_g_ne (by omega), ← h23w]; exact pw_g_ne (by omega)
      have z8 : pw_g h26 28 8 = pw_g h 28 8 := by rw [← h26w, pw_g_ne (by omega), ← h23w]; exact pw_g_ne (by omega)
      have z30 : pw_g h26 30 1 = pw_g h 30 1 := by rw [← h26w, pw_g_ne (by omega), ← h23w]; exact pw_g_ne (by omega)
      have z33 : ∀ j : Nat, pw_g h26 33 j = pw_g h 33 j := fun j => by rw [← h26w, pw_g_ne (by omega), ← h23w]; exact pw_g_ne (by omega)
      have z36 : ∀ j : Nat, pw_g h26 36 j = pw_g h 36 j := fun j => by rw [← h26w, pw_g_ne (by omega), ← h23w]; exact pw_g_ne (by omega)
      have zw : ∀ j : Nat, pw_g h26 29 j = pw_g h 29 j := fun j => by rw [← h26w, pw_g_ne (by omega), ← h23w]; exact pw_g_ne (by omega)
      have zS : px_S 28 h26 = px_S 28 h := px_S.eq (c := 28) z4 zw
      have z5 : pw_g h26 28 5 = pw_g h 28 5 + 1 := by rw [← h26w, pw_g_ne (by omega), ← h23w]; exact pw_g_eq (c := 28) (k := 5) I rfl rfl (by omega) (by omega)
      have z6 : pw_g h26 28 6 = (pw_g h23 28 6) + 0 := by rw [← h26w]; exact pw_g_eq (c := 28) (k := 6) h23I rfl rfl (by omega) (by omega)
      refine pw_ld E (pc' := 119) (st' := [.ref 44]) rfl (fun _ => rfl) ?_
      refine pw_ld E (pc' := 120) (st' := [pw_i n3, .ref 44]) rfl (fun _ => rfl) ?_
      refine pw_if E (pc' := 128) rfl (by decide) (by omega) (by omega) ?_ ?_
      · intro hc27
        change n3 = (0 : Int) at hc27
        refine pw_bip E (pc' := 130) rfl rfl (by decide) ?_
        obtain ⟨f28l, f28h, -⟩ := pw_obj (c := 28) h26I rfl
        refine pw_call (m' := 48) (As := [.ref 44, pw_i 9]) (rest := []) (ls'' := [some (.ref 44), some (pw_i 9)]) (Nat.le_trans (by decide) hd) E rfl (fun _ => pw_iV rfl rfl rfl rfl (pw_cellI f28h rfl)) (rfl : pm_ent 48 = some (2, 2, 5, 4, pmc_48)) rfl rfl (cm_48_x28 (pw_dp hd (by decide)) h26I (9) (by omega) (by omega) (by omega)) ?_
        rintro h29 v30 ⟨h29I, h29E, hqpu, rfl⟩
        refine ⟨_, rfl, ?_⟩
        have h29F := h26F.tr (h29E.wk (W' := [28, 29, 30, 33, 36]) (by first | rfl | simp))
        show pw X d h29 47 133 [some (.ref 44), some (.ref 40), some (.ref 46), some (pw_i n3), some (pw_i n4), some (pw_i n5), some (pw_i n6)] [] _
        refine pw_ld E (pc' := 134) (st' := [pw_i 0]) rfl (fun _ => rfl) ?_
        refine pw_iret E rfl ?_
        exfalso
        omega
      · intro hc31
        change ¬ (n3 = (0 : Int)) at hc31
        refine pw_bip E (pc' := 125) rfl rfl (by decide) ?_
        refine pw_goto E (pc' := 130) rfl (by decide) ?_
        obtain ⟨f32l, f32h, -⟩ := pw_obj (c := 28) h26I rfl
        refine pw_call (m' := 48) (As := [.ref 44, pw_i 8]) (rest := []) (ls'' := [some (.ref 44), some (pw_i 8)]) (Nat.le_trans (by decide) hd) E rfl (fun _ => pw_iV rfl rfl rfl rfl (pw_cellI f32h rfl)) (rfl : pm_ent 48 = some (2, 2, 5, 4, pmc_48)) rfl rfl (cm_48_x28 (pw_dp hd (by decide)) h26I (8) (by omega) (by omega) (by omega)) ?_
        rintro h33 v34 ⟨h33I, h33E, hqpu, rfl⟩
        refine ⟨_, rfl, ?_⟩
        have h33F := h26F.tr (h33E.wk (W' := [28, 29, 30, 33, 36]) (by first | rfl | simp))
        show pw X d h33 47 133 [some (.ref 44), some (.ref 40), some (.ref 46), some (pw_i n3), some (pw_i n4), some (pw_i n5), some (pw_i n6)] [] _
        refine pw_ld E (pc' := 134) (st' := [pw_i 0]) rfl (fun _ => rfl) ?_
        refine pw_iret E rfl ?_
        have hS3 : px_S 28 h33 = 8 :: px_S 28 h := (px_S.push (c := 28) (h := h26) (by omega) hqpu.1 hqpu.2.1 hqpu.2.2.1).trans (by rw [zS])
        have p4 := hqpu.1
        have p5 := hqpu.2.2.2 5 (by decide)
        have p6 := hqpu.2.2.2 6 (by decide)
        have p7 := hqpu.2.2.2 7 (by decide)
        have p8 := hqpu.2.2.2 8 (by decide)
        have y30 : pw_g h33 30 1 = pw_g h 30 1 := (pw_Eg (c := 30) h26I h33E rfl rfl 1).trans z30
        have y33 : ∀ j : Nat, pw_g h33 33 j = pw_g h 33 j := fun j => (pw_Eg (c := 33) h26I h33E rfl rfl j).trans (z33 j)
        have y36 : ∀ j : Nat, pw_g h33 36 j = pw_g h 36 j := fun j => (pw_Eg (c := 36) h26I h33E rfl rfl j).trans (z36 j)
        have hIN3 : px_IN 28 h33 st (T + 1) := hIN.dn (x := 8) (o := 0) (by omega) hS3 (by omega) (by omega) (by omega) (by omega) (by omega) y30 y33
        have hC3 : px_C h33 st = px_C h st := px_C.eq y30 y36
        have hst := pt_eoN (F := pt_FF 1) (K := K) (V := V) (d := pw_g h 28 5) (o := pw_g h 28 6) (S := px_S 28 h) (c := px_C h st) (by omega) (by omega) (by omega)
        have d5 : pw_g h33 28 5 = pw_g h 28 5 + 1 := by omega
        have d6 : pw_g h33 28 6 = pw_g h 28 6 := by omega
        exact ⟨h33I, h33F, ⟨_, rfl, by omega, by omega, Or.inr ⟨rfl, (by rw [px_s, hst]; try rfl), (by rw [px_s, hst]; exact ⟨hIN3, (by rw [hS3, hC3, d5, d6]; try rfl), (by show pw_g h33 28 7 = 2 + 0; omega), fun q => absurd (show (0 : Int) = 1 from q) (by decide), (px_B.rf i7).eq y30 y36 y33, by omega⟩)⟩⟩⟩
    · intro hc35
      change ¬ (n4 = (0 : Int)) at hc35
      refine pw_ld E (pc' := 110) (st' := [pw_i 1, pw_i (pw_g h23 28 6), .ref 44]) rfl (fun _ => rfl) ?_
      refine pw_goto E (pc' := 114) rfl (by decide) ?_
      refine pw_add E (pc' := 115) rfl rfl ?_
      refine pw_putI h23I E (c := 28) (k := 6) (pc' := 118) rfl rfl rfl rfl (by omega) (by omega) (by omega) (by omega) rfl rfl ?_
      intro h36I h36E
      generalize h36w : pw_w h23 28 6 (pw_i ((pw_g h23 28 6) + 1)) = h36 at h36I h36E ⊢
      have h36F := h23F.tr (h36E.wk (W' := [28, 29, 30, 33, 36]) (by first | rfl | simp))
      have z4 : pw_g h36 28 4 = pw_g h 28 4 := by rw [← h36w, pw_g_ne (by omega), ← h23w]; exact pw_g_ne (by omega)
      have z7 : pw_g h36 28 7 = pw_g h 28 7 := by rw [← h36w, pw_g_ne (by omega), ← h23w]; exact pw_g_ne (by omega)
      have z8 : pw_g h36 28 8 = pw_g h 28 8 := by rw [← h36w, pw_g_ne (by omega), ← h23w]; exact pw_g_ne (by omega)
      have z30 : pw_g h36 30 1 = pw_g h 30 1 := by rw [← h36w, pw_g_ne (by omega), ← h23w]; exact pw_g_ne (by omega)
      have z33 : ∀ j : Nat, pw_g h36 33 j = pw_g h 33 j := fun j => by rw [← h36w, pw_g_ne (by omega), ← h23w]; exact pw_g_ne (by omega)
      have z36 : ∀ j : Nat, pw_g h36 36 j = pw_g h 36 j := fun j => by rw [← h36w, pw_g_ne (by omega), ← h23w]; exact pw_g_ne (by omega)
      have zw : ∀ j : Nat, pw_g h36 29 j = pw_g h 29 j := fun j => by rw [← h36w, pw_g_ne (by omega), ← h23w]; exact pw_g_ne (by omega)
      have zS : px_S 28 h36 = px_S 28 h := px_S.eq (c := 28) z4 zw
      have z5 : pw_g h36 28 5 = pw_g h 28 5 + 1 := by rw [← h36w, pw_g_ne (by omega), ← h23w]; exact pw_g_eq (c := 28) (k := 5) I rfl rfl (by omega) (by omega)
      have z6 : pw_g h36 28 6 = (pw_g h23 28 6) + 1 := by rw [← h36w]; exact pw_g_eq (c := 28) (k := 6) h23I rfl rfl (by omega) (by omega)
      refine pw_ld E (pc' := 119) (st' := [.ref 44]) rfl (fun _ => rfl) ?_
      refine pw_ld E (pc' := 120) (st' := [pw_i n3, .ref 44]) rfl (fun _ => rfl) ?_
      refine pw_if E (pc' := 128) rfl (by decide) (by omega) (by omega) ?_ ?_
      · intro hc37
        change n3 = (0 : Int) at hc37
        refine pw_bip E (pc' := 130) rfl rfl (by decide) ?_
        obtain ⟨f38l, f38h, -⟩ := pw_obj (c := 28) h36I rfl
        refine pw_call (m' := 48) (As := [.ref 44, pw_i 9]) (rest := []) (ls'' := [some (.ref 44), some (pw_i 9)]) (Nat.le_trans (by decide) hd) E rfl (fun _ => pw_iV rfl rfl rfl rfl (pw_cellI f38h rfl)) (rfl : pm_ent 48 = some (2, 2, 5, 4, pmc_48)) rfl rfl (cm_48_x28 (pw_dp hd (by decide)) h36I (9) (by omega) (by omega) (by omega)) ?_
        rintro h39 v40 ⟨h39I, h39E, hqpu, rfl⟩
        refine ⟨_, rfl, ?_⟩
        have h39F := h36F.tr (h39E.wk (W' := [28, 29, 30, 33, 36]) (by first | rfl | simp))
        show pw X d h39 47 133 [some (.ref 44), some (.ref 40), some (.ref 46), some (pw_i n3), some (pw_i n4), some (pw_i n5), some (pw_i n6)] [] _
        refine pw_ld E (pc' := 134) (st' := [pw_i 0]) rfl (fun _ => rfl) ?_
        refine pw_iret E rfl ?_
        have hS3 : px_S 28 h39 = 9 :: px_S 28 h := (px_S.push (c := 28) (h := h36) (by omega) hqpu.1 hqpu.2.1 hqpu.2.2.1).trans (by rw [zS])
        have p4 := hqpu.1
        have p5 := hqpu.2.2.2 5 (by decide)
        have p6 := hqpu.2.2.2 6 (by decide)
        have p7 := hqpu.2.2.2 7 (by decide)
        have p8 := hqpu.2.2.2 8 (by decide)
        have y30 : pw_g h39 30 1 = pw_g h 30 1 := (pw_Eg (c := 30) h36I h39E rfl rfl 1).trans z30
        have y33 : ∀ j : Nat, pw_g h39 33 j = pw_g h 33 j := fun j => (pw_Eg (c := 33) h36I h39E rfl rfl j).trans (z33 j)
        have y36 : ∀ j : Nat, pw_g h39 36 j = pw_g h 36 j := fun j => (pw_Eg (c := 36) h36I h39E rfl rfl j).trans (z36 j)
        have hIN3 : px_IN 28 h39 st (T + 1) := hIN.dn (x := 9) (o := 1) (by omega) hS3 (by omega) (by omega) (by omega) (by omega) (by omega) y30 y33
        have hC3 : px_C h39 st = px_C h st := px_C.eq y30 y36
        have hst := pt_eoB (F := pt_FF 1) (K := K) (V := V) (d := pw_g h 28 5) (o := pw_g h 28 6) (S := px_S 28 h) (c := px_C h st) (by omega) (by omega) (by omega)
        have d5 : pw_g h39 28 5 = pw_g h 28 5 + 1 := by omega
        have d6 : pw_g h39 28 6 = pw_g h 28 6 + 1 := by omega
        exact ⟨h39I, h39F, ⟨_, rfl, by omega, by omega, Or.inr ⟨rfl, (by rw [px_s, hst]; try rfl), (by rw [px_s, hst]; exact ⟨hIN3, (by rw [hS3, hC3, d5, d6]; try rfl), (by show pw_g h39 28 7 = 2 + 0; omega), fun q => absurd (show (0 : Int) = 1 from q) (by decide), (px_B.rf i7).eq y30 y36 y33, by omega⟩)⟩⟩⟩
      · intro hc41
        change ¬ (n3 = (0 : Int)) at hc41
        refine pw_bip E (pc' := 125) rfl rfl (by decide) ?_
        refine pw_goto E (pc' := 130) rfl (by decide) ?_
        obtain ⟨f42l, f42h, -⟩ := pw_obj (c := 28) h36I rfl
        refine pw_call (m' := 48) (As := [.ref 44, pw_i 8]) (rest := []) (ls'' := [some (.ref 44), some (pw_i 8)]) (Nat.le_trans (by decide) hd) E rfl (fun _ => pw_iV rfl rfl rfl rfl (pw_cellI f42h rfl)) (rfl : pm_ent 48 = some (2, 2, 5, 4, pmc_48)) rfl rfl (cm_48_x28 (pw_dp hd (by decide)) h36I (8) (by omega) (by omega) (by omega)) ?_
        rintro h43 v44 ⟨h43I, h43E, hqpu, rfl⟩
        refine ⟨_, rfl, ?_⟩
        have h43F := h36F.tr (h43E.wk (W' := [28, 29, 30, 33, 36]) (by first | rfl | simp))
        show pw X d h43 47 133 [some (.ref 44), some (.ref 40), some (.ref 46), some (pw_i n3), some (pw_i n4), some (pw_i n5), some (pw_i n6)] [] _
        refine pw_ld E (pc' := 134) (st' := [pw_i 0]) rfl (fun _ => rfl) ?_
        refine pw_iret E rfl ?_
        exfalso
        omega
  have K70 : ∀ (n3 n4 n5 n6 : Int), 0 ≤ n3 → n3 ≤ 1 → 0 ≤ n4 → n4 ≤ 1 → 0 ≤ n5 → n5 ≤ 1 → (-1) ≤ n6 → n6 ≤ 60 → ((n3 = 1 ∧ K = 1 ∧ V = 19741) ∨ (n3 = 0 ∧ ¬ (K = 1 ∧ V = 19741))) → ((n4 = 1 ∧ K = 3 ∧ V = 40) ∨ (n4 = 0 ∧ ¬ (K = 3 ∧ V = 40))) → ((n5 = 1 ∧ K = 2) ∨ (n5 = 0 ∧ K ≠ 2)) → (n6 = px_wn 7 K V) → ((K = 1 ∧ (V = 19741 ∨ 0 ≤ pt_FF 1 V)) ∨ (K = 3 ∧ V = 40) ∨ K = 2) → pw X d h 47 70 [some (.ref 44), some (.ref 40), some (.ref 46), some (pw_i n3), some (pw_i n4), some (pw_i n5), some (pw_i n6)] [] (fun h' v => pw_I h' ∧ pw_E [28, 29, 30, 33, 36] h h' ∧ ∃ a : Int, v = .inl (some (pw_i a)) ∧ 0 ≤ a ∧ a ≤ 5 ∧ ((a ≠ 0 ∧ (pt_es (pt_FF 1) K V (px_s 28 h st 0)).1 = a) ∨ (a = 0 ∧ (pt_es (pt_FF 1) K V (px_s 28 h st 0)).1 = 0 ∧ px_PO 28 st (T + 1) h h' (pt_es (pt_FF 1) K V (px_s 28 h st 0)).2.1 (pt_es (pt_FF 1) K V (px_s 28 h st 0)).2))) := by
    intro n3 n4 n5 n6 n0a n0b n1a n1b n2a n2b n3a n3b y0 y1 y2 y3 y4
    refine pw_ld E (pc' := 71) (st' := [.ref 44]) rfl (fun _ => rfl) ?_
    refine pw_getI2 I E (c := 28) (k := 5) (pc' := 74) rfl rfl rfl rfl rfl rfl (fun hf45a hf45b => ?_)
    refine pw_ld E (pc' := 75) (st' := [pw_i 5, pw_i (pw_g h 28 5)]) rfl (fun _ => rfl) ?_
    refine pw_if2 E (pc' := 80) rfl (by decide) (by omega) (by omega) (by decide) (by decide) ?_ ?_
    · intro hc46
      change pw_g h 28 5 < (5 : Int) at hc46
      refine pw_ld E (pc' := 81) (st' := [pw_i n3]) rfl (fun _ => rfl) ?_
      refine pw_if E (pc' := 89) rfl (by decide) (by omega) (by omega) ?_ ?_
      · intro hc47
        change n3 ≠ (0 : Int) at hc47
        exact K89 (n3) (n4) (n5) (n6) (by omega) (by omega) (by omega) (by omega) (by omega) (by omega) (by omega) (by omega) (by omega) (by omega) (by omega) (by omega) (by omega) (by omega) (by omega)
      · intro hc48
        change ¬ (n3 ≠ (0 : Int)) at hc48
        refine pw_ld E (pc' := 86) (st' := [pw_i n4]) rfl (fun _ => rfl) ?_
        refine pw_if E (pc' := 135) rfl (by decide) (by omega) (by omega) ?_ ?_
        · intro hc49
          change n4 = (0 : Int) at hc49
          exact K135 (n3) (n4) (n5) (n6) (by omega) (by omega) (by omega) (by omega) (by omega) (by omega) (by omega) (by omega) (by omega) (by omega) (by omega) (by omega) (by omega) (by omega) (by omega)
        · intro hc50
          change ¬ (n4 = (0 : Int)) at hc50
          exact K89 (n3) (n4) (n5) (n6) (by omega) (by omega) (by omega) (by omega) (by omega) (by omega) (by omega) (by omega) (by omega) (by omega) (by omega) (by omega) (by omega) (by omega) (by omega)
    · intro hc51
      change ¬ (pw_g h 28 5 < (5 : Int)) at hc51
      refine pw_ld E (pc' := 79) (st' := [pw_i 5]) rfl (fun _ => rfl) ?_
      refine pw_iret E rfl ?_
      exact ⟨I, E0, ⟨_, rfl, by omega, by omega, Or.inl ⟨by decide, by rw [px_s, pt_eoD (by omega) (by omega)]; try rfl⟩⟩⟩
  have K48 : ∀ (n3 n4 n5 n6 : Int), 0 ≤ n3 → n3 ≤ 1 → 0 ≤ n4 → n4 ≤ 1 → 0 ≤ n5 → n5 ≤ 1 → (-1) ≤ n6 → n6 ≤ 60 → ((n3 = 1 ∧ K = 1 ∧ V = 19741) ∨ (n3 = 0 ∧ ¬ (K = 1 ∧ V = 19741))) → ((n4 = 1 ∧ K = 3 ∧ V = 40) ∨ (n4 = 0 ∧ ¬ (K = 3 ∧ V = 40))) → ((n5 = 1 ∧ K = 2) ∨ (n5 = 0 ∧ K ≠ 2)) → (n6 = px_wn 7 K V) → pw X d h 47 48 [some (.ref 44), some (.ref 40), some (.ref 46), some (pw_i n3), some (pw_i n4), some (pw_i n5), some (pw_i n6)] [] (fun h' v => pw_I h' ∧ pw_E [28, 29, 30, 33, 36] h h' ∧ ∃ a : Int, v = .inl (some (pw_i a)) ∧ 0 ≤ a ∧ a ≤ 5 ∧ ((a ≠ 0 ∧ (pt_es (pt_FF 1) K V (px_s 28 h st 0)).1 = a) ∨ (a = 0 ∧ (pt_es (pt_FF 1) K V (px_s 28 h st 0)).1 = 0 ∧ px_PO 28 st (T + 1) h h' (pt_es (pt_FF 1) K V (px_s 28 h st 0)).2.1 (pt_es (pt_FF 1) K V (px_s 28 h st 0)).2))) := by
    intro n3 n4 n5 n6 n0a n0b n1a n1b n2a n2b n3a n3b y0 y1 y2 y3
    refine pw_ld E (pc' := 49) (st' := [pw_i n3]) rfl (fun _ => rfl) ?_
    refine pw_if E (pc' := 70) rfl (by decide) (by omega) (by omega) ?_ ?_
    · intro hc52
      change n3 ≠ (0 : Int) at hc52
      exact K70 (n3) (n4) (n5) (n6) (by omega) (by omega) (by omega) (by omega) (by omega) (by omega) (by omega) (by omega) (by omega) (by omega) (by omega) (by omega) (by omega)
    · intro hc53
      change ¬ (n3 ≠ (0 : Int)) at hc53
      refine pw_ld E (pc' := 54) (st' := [pw_i n4]) rfl (fun _ => rfl) ?_
      refine pw_if E (pc' := 70) rfl (by decide) (by omega) (by omega) ?_ ?_
      · intro hc54
        change n4 ≠ (0 : Int) at hc54
        exact K70 (n3) (n4) (n5) (n6) (by omega) (by omega) (by omega) (by omega) (by omega) (by omega) (by omega) (by omega) (by omega) (by omega) (by omega) (by omega) (by omega)
      · intro hc55
        change ¬ (n4 ≠ (0 : Int)) at hc55
        refine pw_ld E (pc' := 59) (st' := [pw_i n5]) rfl (fun _ => rfl) ?_
        refine pw_if E (pc' := 70) rfl (by decide) (by omega) (by omega) ?_ ?_
        · intro hc56
          change n5 ≠ (0 : Int) at hc56
          exact K70 (n3) (n4) (n5) (n6) (by omega) (by omega) (by omega) (by omega) (by omega) (by omega) (by omega) (by omega) (by omega) (by omega) (by omega) (by omega) (by omega)
        · intro hc57
          change ¬ (n5 ≠ (0 : Int)) at hc57
          refine pw_ld E (pc' := 64) (st' := [pw_i n6]) rfl (fun _ => rfl) ?_
          refine pw_ld E (pc' := 65) (st' := [pw_i ((-1)), pw_i n6]) rfl (fun _ => rfl) ?_
          refine pw_if2 E (pc' := 70) rfl (by decide) (by omega) (by omega) (by decide) (by decide) ?_ ?_
          · intro hc58
            change n6 ≠ ((-1) : Int) at hc58
            exact K70 (n3) (n4) (n5) (n6) (by omega) (by omega) (by omega) (by omega) (by omega) (by omega) (by omega) (by omega) (by omega) (by omega) (by omega) (by omega) (by omega)
          · intro hc59
            change ¬ (n6 ≠ ((-1) : Int)) at hc59
            refine pw_ld E (pc' := 69) (st' := [pw_i 1]) rfl (fun _ => rfl) ?_
            refine pw_iret E rfl ?_
            exact ⟨I, E0, ⟨_, rfl, by omega, by omega, Or.inl ⟨by decide, by rw [px_s, pt_eoW (by omega) (by omega) (by omega) (fun q => by omega)]; try rfl⟩⟩⟩
  have K38 : ∀ (n3 n4 n5 : Int), 0 ≤ n3 → n3 ≤ 1 → 0 ≤ n4 → n4 ≤ 1 → 0 ≤ n5 → n5 ≤ 1 → ((n3 = 1 ∧ K = 1 ∧ V = 19741) ∨ (n3 = 0 ∧ ¬ (K = 1 ∧ V = 19741))) → ((n4 = 1 ∧ K = 3 ∧ V = 40) ∨ (n4 = 0 ∧ ¬ (K = 3 ∧ V = 40))) → ((n5 = 1 ∧ K = 2) ∨ (n5 = 0 ∧ K ≠ 2)) → pw X d h 47 38 [some (.ref 44), some (.ref 40), some (.ref 46), some (pw_i n3), some (pw_i n4), some (pw_i n5), none] [] (fun h' v => pw_I h' ∧ pw_E [28, 29, 30, 33, 36] h h' ∧ ∃ a : Int, v = .inl (some (pw_i a)) ∧ 0 ≤ a ∧ a ≤ 5 ∧ ((a ≠ 0 ∧ (pt_es (pt_FF 1) K V (px_s 28 h st 0)).1 = a) ∨ (a = 0 ∧ (pt_es (pt_FF 1) K V (px_s 28 h st 0)).1 = 0 ∧ px_PO 28 st (T + 1) h h' (pt_es (pt_FF 1) K V (px_s 28 h st 0)).2.1 (pt_es (pt_FF 1) K V (px_s 28 h st 0)).2))) := by
    intro n3 n4 n5 n0a n0b n1a n1b n2a n2b y0 y1 y2
    refine pw_ld E (pc' := 39) (st' := [.ref 40]) rfl (fun _ => rfl) ?_
    refine pw_ld E (pc' := 40) (st' := [.ref 44, .ref 40]) rfl (fun _ => rfl) ?_
    refine pw_getR (b := 7) I E (c := 28) (k := 1) (pc' := 43) rfl rfl rfl rfl rfl rfl rfl ?_
    obtain ⟨f60l, f60h, -⟩ := pw_obj (c := 24) I rfl
    refine pw_call (m' := 108) (As := [.ref 40, .ref 7]) (rest := []) (ls'' := [some (.ref 40), some (.ref 7), none, none, none, none, none]) (Nat.le_trans (by decide) hd) E rfl (fun _ => pw_iV rfl rfl rfl rfl (pw_cellI f60h rfl)) (rfl : pm_ent 108 = some (2, 7, 9, 0, pmc_108)) rfl rfl (cm_108_w (pw_dp hd (by decide)) I hX 7 (by omega) (by omega) K V hTR hXs (by decide)) ?_
    rintro u62 v61 ⟨rfl, x63, rfl, hx63a, hx63b, hx63r⟩
    refine ⟨_, rfl, ?_⟩
    show pw X d h 47 46 [some (.ref 44), some (.ref 40), some (.ref 46), some (pw_i n3), some (pw_i n4), some (pw_i n5), none] [pw_i x63] _
    change x63 = px_wn 7 K V at hx63r
    refine pw_ist E (pc' := 48) (ls' := [some (.ref 44), some (.ref 40), some (.ref 46), some (pw_i n3), some (pw_i n4), some (pw_i n5), some (pw_i x63)]) rfl rfl rfl rfl ?_
    exact K48 (n3) (n4) (n5) (x63) (by omega) (by omega) (by omega) (by omega) (by omega) (by omega) (by omega) (by omega) (by omega) (by omega) (by omega) (by omega)
  have K15 : ∀ (n3 : Int), 0 ≤ n3 → n3 ≤ 1 → ((n3 = 1 ∧ K = 1 ∧ V = 19741) ∨ (n3 = 0 ∧ ¬ (K = 1 ∧ V = 19741))) → pw X d h 47 15 [some (.ref 44), some (.ref 40), some (.ref 46), some (pw_i n3), none, none, none] [] (fun h' v => pw_I h' ∧ pw_E [28, 29, 30, 33, 36] h h' ∧ ∃ a : Int, v = .inl (some (pw_i a)) ∧ 0 ≤ a ∧ a ≤ 5 ∧ ((a ≠ 0 ∧ (pt_es (pt_FF 1) K V (px_s 28 h st 0)).1 = a) ∨ (a = 0 ∧ (pt_es (pt_FF 1) K V (px_s 28 h st 0)).1 = 0 ∧ px_PO 28 st (T + 1) h h' (pt_es (pt_FF 1) K V (px_s 28 h st 0)).2.1 (pt_es (pt_FF 1) K V (px_s 28 h st 0)).2))) := by
    intro n3 n0a n0b y0
    refine pw_ld E (pc' := 16) (st' := [.ref 40]) rfl (fun _ => rfl) ?_
    refine pw_bip E (pc' := 18) rfl rfl (by decide) ?_
    obtain ⟨f64l, f64h, -⟩ := pw_obj (c := 24) I rfl
    refine pw_call (m' := 109) (As := [.ref 40, pw_i 40]) (rest := []) (ls'' := [some (.ref 40), some (pw_i 40)]) (Nat.le_trans (by decide) hd) E rfl (fun _ => pw_iV rfl rfl rfl rfl (pw_cellI f64h rfl)) (rfl : pm_ent 109 = some (2, 2, 9, 1, pmc_109)) rfl rfl (cm_109_x24 (pw_dp hd (by decide)) I (40) (by omega) (by omega)) ?_
    rintro u66 v65 ⟨rfl, x67, rfl, hx67a, hx67b, hx67r⟩
    refine ⟨_, rfl, ?_⟩
    show pw X d h 47 21 [some (.ref 44), some (.ref 40), some (.ref 46), some (pw_i n3), none, none, none] [pw_i x67] _
    change (x67 = 1 ∧ pw_g h 24 4 = 3 ∧ pw_g h 24 5 = 40) ∨ (x67 = 0 ∧ ¬ (pw_g h 24 4 = 3 ∧ pw_g h 24 5 = 40)) at hx67r
    refine pw_ist E (pc' := 23) (ls' := [some (.ref 44), some (.ref 40), some (.ref 46), some (pw_i n3), some (pw_i x67), none, none]) rfl rfl rfl rfl ?_
    refine pw_ld E (pc' := 24) (st' := [.ref 40]) rfl (fun _ => rfl) ?_
    obtain ⟨f68l, f68h, -⟩ := pw_obj (c := 24) I rfl
    refine pw_call (m' := 107) (As := [.ref 40]) (rest := []) (ls'' := [some (.ref 40)]) (Nat.le_trans (by decide) hd) E rfl (fun _ => pw_iV rfl rfl rfl rfl (pw_cellI f68h rfl)) (rfl : pm_ent 107 = some (1, 1, 9, 0, pmc_107)) rfl rfl (cm_107_x24 (pw_dp hd (by decide)) I ) ?_
    rintro u70 v69 ⟨rfl, x71, rfl, hx71a, hx71b, hx71r⟩
    refine ⟨_, rfl, ?_⟩
    show pw X d h 47 27 [some (.ref 44), some (.ref 40), some (.ref 46), some (pw_i n3), some (pw_i x67), none, none] [pw_i x71] _
    change x71 = pw_g h 24 4 at hx71r
    refine pw_ld E (pc' := 28) (st' := [pw_i 2, pw_i x71]) rfl (fun _ => rfl) ?_
    refine pw_if2 E (pc' := 35) rfl (by decide) (by omega) (by omega) (by decide) (by decide) ?_ ?_
    · intro hc72
      change x71 ≠ (2 : Int) at hc72
      refine pw_ld E (pc' := 36) (st' := [pw_i 0]) rfl (fun _ => rfl) ?_
      refine pw_ist E (pc' := 38) (ls' := [some (.ref 44), some (.ref 40), some (.ref 46), some (pw_i n3), some (pw_i x67), some (pw_i 0), none]) rfl rfl rfl rfl ?_
      exact K38 (n3) (x67) (0) (by omega) (by omega) (by omega) (by omega) (by omega) (by omega) (by omega) (by omega) (by omega)
    · intro hc73
      change ¬ (x71 ≠ (2 : Int)) at hc73
      refine pw_ld E (pc' := 32) (st' := [pw_i 1]) rfl (fun _ => rfl) ?_
      refine pw_goto E (pc' := 36) rfl (by decide) ?_
      refine pw_ist E (pc' := 38) (ls' := [some (.ref 44), some (.ref 40), some (.ref 46), some (pw_i n3), some (pw_i x67), some (pw_i 1), none]) rfl rfl rfl rfl ?_
      exact K38 (n3) (x67) (1) (by omega) (by omega) (by omega) (by omega) (by omega) (by omega) (by omega) (by omega) (by omega)
  refine pw_ld E (pc' := 1) (st' := [.ref 40]) rfl (fun _ => rfl) ?_
  refine pw_ld E (pc' := 3) (st' := [.ref 10, .ref 40]) rfl (fun _ => rfl) ?_
  obtain ⟨f74l, f74h, -⟩ := pw_obj (c := 24) I rfl
  refine pw_call (m' := 108) (As := [.ref 40, .ref 10]) (rest := []) (ls'' := [some (.ref 40), some (.ref 10), none, none, none, none, none]) (Nat.le_trans (by decide) hd) E rfl (fun _ => pw_iV rfl rfl rfl rfl (pw_cellI f74h rfl)) (rfl : pm_ent 108 = some (2, 7, 9, 0, pmc_108)) rfl rfl (cm_108_w (pw_dp hd (by decide)) I hX 10 (by omega) (by omega) K V hTR hXs (by decide)) ?_
  rintro u76 v75 ⟨rfl, x77, rfl, hx77a, hx77b, hx77r⟩
  refine ⟨_, rfl, ?_⟩
  show pw X d h 47 6 [some (.ref 44), some (.ref 40), some (.ref 46), none, none, none, none] [pw_i x77] _
  change x77 = px_wn 10 K V at hx77r
  refine pw_if E (pc' := 13) rfl (by decide) (by omega) (by omega) ?_ ?_
  · intro hc78
    change x77 ≠ (0 : Int) at hc78
    refine pw_ld E (pc' := 14) (st' := [pw_i 0]) rfl (fun _ => rfl) ?_
    refine pw_istn E (pc' := 15) (ls' := [some (.ref 44), some (.ref 40), some (.ref 46), some (pw_i 0), none, none, none]) rfl rfl rfl rfl ?_
    exact K15 (0) (by omega) (by omega) (by omega)
  · intro hc79
    change ¬ (x77 ≠ (0 : Int)) at hc79
    refine pw_ld E (pc' := 10) (st' := [pw_i 1]) rfl (fun _ => rfl) ?_
    refine pw_goto E (pc' := 14) rfl (by decide) ?_
    refine pw_istn E (pc' := 15) (ls' := [some (.ref 44), some (.ref 40), some (.ref 46), some (pw_i 1), none, none, none]) rfl rfl rfl rfl ?_
    exact K15 (1) (by omega) (by omega) (by omega)
end
