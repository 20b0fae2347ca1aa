section
/-! the class's Readers, exactly: tokens, whole texts -/
set_option maxHeartbeats 4000000 in
theorem cm_45_x28 {X : List (Nat × List Value)} {d : Nat} {h : pm_H} (hd : 5 ≤ d) (I : pw_I h) (hX : pw_Xk X) (K V P : Nat → Int) (n : Nat) (RR : pt_TR) (i : Nat) (hp0 : pw_Xr X) (hp1 : pw_Xs X) (hp2 : pw_Xf X) (hp3 : px_LS 1 28 K V P n RR i h) (hp4 : px_TR (K i) (V i) h) (hp5 : n ≤ 1000) (hp6 : i ≤ n) (hp7 : K n = 0) (hp8 : ∀ j : Nat, 0 ≤ P j) : pw X d h 45 0 [some (.ref 44), some (.ref 40), some (.ref 46)] [] (fun h' v => pw_I h' ∧ pw_E [28, 29, 30, 31, 32, 33, 34, 36] h h' ∧ ∃ a : Int, v = .inl (some (pw_i a)) ∧ 0 ≤ a ∧ a ≤ 5 ∧ (px_LN 1 28 K V P n RR i h' a)) := by
  have E : pm_ent 45 = some (3, 3, 5, 0, pmc_45) := rfl
  have E0 : pw_E [28, 29, 30, 31, 32, 33, 34, 36] h h := pw_E.rf _ _
  have hXr := hp0
  have hXs := hp1
  have hXf := hp2
  have hLS := hp3
  have hTR := hp4
  have hk := hp4.k
  have w9 := px_wn9 (K i) (V i)
  have l0 := (pw_gI (c := 30) (k := 1) I rfl rfl).1
  refine pw_ld E (pc' := 1) (st' := [.ref 44]) rfl (fun _ => rfl) ?_
  refine pw_getI2 I E (c := 28) (k := 7) (pc' := 4) rfl rfl rfl rfl rfl rfl (fun hf1a hf1b => ?_)
  rcases (by omega : pw_g h 28 7 = 0 ∨ pw_g h 28 7 = 1 ∨ pw_g h 28 7 = 2 ∨ pw_g h 28 7 = 3 ∨ pw_g h 28 7 = 4 ∨ (pw_g h 28 7 < 0 ∨ 4 < pw_g h 28 7)) with hs2 | hs2 | hs2 | hs2 | hs2 | hs2
  · refine pw_tswJ (o := 36) E (pc' := 40) rfl (by omega) (by omega) (by omega) (by rw [hs2]; rfl) (by decide) ?_
    have hLE := hLS.c0 (by omega)
    refine pw_ld E (pc' := 41) (st' := [.ref 44]) rfl (fun _ => rfl) ?_
    refine pw_ld E (pc' := 42) (st' := [.ref 40, .ref 44]) rfl (fun _ => rfl) ?_
    refine pw_ld E (pc' := 43) (st' := [.ref 46, .ref 40, .ref 44]) rfl (fun _ => rfl) ?_
    obtain ⟨f3l, f3h, -⟩ := pw_obj (c := 28) I rfl
    refine pw_call (m' := 46) (As := [.ref 44, .ref 40, .ref 46]) (rest := []) (ls'' := [some (.ref 44), some (.ref 40), some (.ref 46), none]) (Nat.le_trans (by decide) hd) E rfl (fun _ => pw_iV rfl rfl rfl rfl (pw_cellI f3h rfl)) (rfl : pm_ent 46 = some (3, 4, 5, 0, pmc_46)) rfl rfl (cm_46_x28 (pw_dp hd (by decide)) I hX (K i) (V i) hTR hXs hXf) ?_
    rintro h4 v5 ⟨h4I, h4E, x6, rfl, hx6a, hx6b, hx6r⟩
    refine ⟨_, rfl, ?_⟩
    have h4F := E0.tr (h4E.wk (W' := [28, 29, 30, 31, 32, 33, 34, 36]) (by first | rfl | simp))
    show pw X d h4 45 46 [some (.ref 44), some (.ref 40), some (.ref 46)] [pw_i x6] _
    change px_Q46 1 28 (K i) (V i) h h4 x6 at hx6r
    refine pw_iret E rfl ?_
    exact ⟨h4I, h4F, ⟨_, rfl, by omega, by omega, px_L0 hLE hp6 hp8 l0 hx6r (pw_Eg (c := 30) I h4E rfl rfl 1) (pw_Eg (c := 34) I h4E rfl rfl) (pw_Eg (c := 36) I h4E rfl rfl)⟩⟩
  · refine pw_tswJ (o := 43) E (pc' := 47) rfl (by omega) (by omega) (by omega) (by rw [hs2]; rfl) (by decide) ?_
    obtain ⟨b, w, th, C, N, hLB, hb, hF, hZ⟩ := hLS.c1 (by omega)
    refine pw_ld E (pc' := 48) (st' := [.ref 44]) rfl (fun _ => rfl) ?_
    refine pw_ld E (pc' := 49) (st' := [pw_i 2, .ref 44]) rfl (fun _ => rfl) ?_
    refine pw_putI I E (c := 28) (k := 7) (pc' := 52) rfl rfl rfl rfl (by omega) (by omega) (by omega) (by omega) rfl rfl ?_
    intro h7I h7E
    generalize h7w : pw_w h 28 7 (pw_i 2) = h7 at h7I h7E ⊢
    have h7F := E0.tr (h7E.wk (W' := [28, 29, 30, 31, 32, 33, 34, 36]) (by first | rfl | simp))
    have hTR1 : px_TR (K i) (V i) h7 := hTR.eq (fun k => by rw [← h7w]; exact pw_g_ne (by omega)) (fun j => by rw [← h7w]; exact pw_g_ne (by omega))
    have t24 : pw_g h7 24 4 = pw_g h 24 4 := by rw [← h7w]; exact pw_g_ne (by omega)
    have t25 : pw_g h7 24 5 = pw_g h 24 5 := by rw [← h7w]; exact pw_g_ne (by omega)
    refine pw_ld E (pc' := 53) (st' := [.ref 40]) rfl (fun _ => rfl) ?_
    refine pw_ld E (pc' := 55) (st' := [.ref 9, .ref 40]) rfl (fun _ => rfl) ?_
    obtain ⟨f8l, f8h, -⟩ := pw_obj (c := 24) h7I rfl
    refine pw_call (m' := 108) (As := [.ref 40, .ref 9]) (rest := []) (ls'' := [some (.ref 40), some (.ref 9), none, none, none, none, none]) (Nat.le_trans (by decide) hd) E rfl (fun _ => pw_iV rfl rfl rfl rfl (pw_cellI f8h rfl)) (rfl : pm_ent 108 = some (2, 7, 9, 0, pmc_108)) rfl rfl (cm_108_w (pw_dp hd (by decide)) h7I hX 9 (by omega) (by omega) (K i) (V i) hTR1 hXs (by decide)) ?_
    rintro u10 v9 ⟨rfl, x11, rfl, hx11a, hx11b, hx11r⟩
    refine ⟨_, rfl, ?_⟩
    show pw X d h7 45 58 [some (.ref 44), some (.ref 40), some (.ref 46)] [pw_i x11] _
    change x11 = px_wn 9 (K i) (V i) at hx11r
    refine pw_if E (pc' := 65) rfl (by decide) (by omega) (by omega) ?_ ?_
    · intro hc12
      change x11 ≠ (0 : Int) at hc12
      refine pw_ld E (pc' := 66) (st' := [pw_i 1]) rfl (fun _ => rfl) ?_
      refine pw_iret E rfl ?_
      exact ⟨h7I, h7F, ⟨_, rfl, by omega, by omega, px_L1 hLB hb hF hZ hp8 l0 ⟨(by rw [← h7w]; exact pw_g_eq (c := 28) (k := 7) I rfl rfl (by omega) (by omega)), fun k hk => (by rw [← h7w]; exact pw_g_ne (fun q => hk q.2.symm)), (fun j => by rw [← h7w]; exact pw_g_ne (by omega)), (fun j => by rw [← h7w]; exact pw_g_ne (by omega)), (fun j => by rw [← h7w]; exact pw_g_ne (by omega)), (fun j => by rw [← h7w]; exact pw_g_ne (by omega)), (fun j => by rw [← h7w]; exact pw_g_ne (by omega))⟩ (fun j => by rw [← h7w]; exact pw_g_ne (by omega)) (by omega)⟩⟩
    · intro hc13
      change ¬ (x11 ≠ (0 : Int)) at hc13
      refine pw_ld E (pc' := 62) (st' := [pw_i 0]) rfl (fun _ => rfl) ?_
      refine pw_goto E (pc' := 66) rfl (by decide) ?_
      refine pw_iret E rfl ?_
      exact ⟨h7I, h7F, ⟨_, rfl, by omega, by omega, px_L1 hLB hb hF hZ hp8 l0 ⟨(by rw [← h7w]; exact pw_g_eq (c := 28) (k := 7) I rfl rfl (by omega) (by omega)), fun k hk => (by rw [← h7w]; exact pw_g_ne (fun q => hk q.2.symm)), (fun j => by rw [← h7w]; exact pw_g_ne (by omega)), (fun j => by rw [← h7w]; exact pw_g_ne (by omega)), (fun j => by rw [← h7w]; exact pw_g_ne (by omega)), (fun j => by rw [← h7w]; exact pw_g_ne (by omega)), (fun j => by rw [← h7w]; exact pw_g_ne (by omega))⟩ (fun j => by rw [← h7w]; exact pw_g_ne (by omega)) (by omega)⟩⟩
  · refine pw_tswJ (o := 63) E (pc' := 67) rfl (by omega) (by omega) (by omega) (by rw [hs2]; rfl) (by decide) ?_
    obtain ⟨b, w, th, C, N, hLB, hLX⟩ := hLS.cX (m := 0) (by omega) (by omega)
    have hIN := hLX.2.2.2.1
    have hp6k : i ≤ 1000 := by omega
    refine pw_ld E (pc' := 68) (st' := [.ref 44]) rfl (fun _ => rfl) ?_
    refine pw_ld E (pc' := 69) (st' := [.ref 40, .ref 44]) rfl (fun _ => rfl) ?_
    refine pw_ld E (pc' := 70) (st' := [.ref 46, .ref 40, .ref 44]) rfl (fun _ => rfl) ?_
    obtain ⟨f14l, f14h, -⟩ := pw_obj (c := 28) I rfl
    refine pw_call (m' := 47) (As := [.ref 44, .ref 40, .ref 46]) (rest := []) (ls'' := [some (.ref 44), some (.ref 40), some (.ref 46), none, none, none, none]) (Nat.le_trans (by decide) hd) E rfl (fun _ => pw_iV rfl rfl rfl rfl (pw_cellI f14h rfl)) (rfl : pm_ent 47 = some (3, 7, 5, 0, pmc_47)) rfl rfl (cm_47_x28 (pw_dp hd (by decide)) I hX (K i) (V i) (pw_g h 32 w.toNat) ((i : Int) - 1) hTR hXs hIN (by omega) (by omega)) ?_
    rintro h15 v16 ⟨h15I, h15E, x17, rfl, hx17a, hx17b, hx17r⟩
    refine ⟨_, rfl, ?_⟩
    have h15F := E0.tr (h15E.wk (W' := [28, 29, 30, 31, 32, 33, 34, 36]) (by first | rfl | simp))
    show pw X d h15 45 73 [some (.ref 44), some (.ref 40), some (.ref 46)] [pw_i x17] _
    change (x17 ≠ 0 ∧ (pt_es (pt_FF 1) (K i) (V i) (px_s 28 h (pw_g h 32 w.toNat) 0)).1 = x17) ∨ (x17 = 0 ∧ (pt_es (pt_FF 1) (K i) (V i) (px_s 28 h (pw_g h 32 w.toNat) 0)).1 = 0 ∧ px_PO 28 (pw_g h 32 w.toNat) (((i : Int) - 1) + 1) h h15 (pt_es (pt_FF 1) (K i) (V i) (px_s 28 h (pw_g h 32 w.toNat) 0)).2.1 (pt_es (pt_FF 1) (K i) (V i) (px_s 28 h (pw_g h 32 w.toNat) 0)).2) at hx17r
    refine pw_iret E rfl ?_
    exact ⟨h15I, h15F, ⟨_, rfl, by omega, by omega, px_L2 hLB hLX hp6k hp8 (by omega) (by omega) (pw_Eg (c := 31) I h15E rfl rfl) (pw_Eg (c := 32) I h15E rfl rfl) (pw_Eg (c := 34) I h15E rfl rfl) (hx17r.elim Or.inl (fun q => Or.inr (Or.inl q)))⟩⟩
  · refine pw_tswJ (o := 70) E (pc' := 74) rfl (by omega) (by omega) (by omega) (by rw [hs2]; rfl) (by decide) ?_
    obtain ⟨b, w, th, C, N, hLB, hLX⟩ := hLS.cX (m := 1) (by omega) (by omega)
    have hIN := hLX.2.2.2.1
    have hp6k : i ≤ 1000 := by omega
    have hn8 := hLX.2.2.1 rfl
    refine pw_ld E (pc' := 75) (st' := [.ref 44]) rfl (fun _ => rfl) ?_
    refine pw_ld E (pc' := 76) (st' := [.ref 40, .ref 44]) rfl (fun _ => rfl) ?_
    refine pw_ld E (pc' := 77) (st' := [.ref 46, .ref 40, .ref 44]) rfl (fun _ => rfl) ?_
    obtain ⟨f18l, f18h, -⟩ := pw_obj (c := 28) I rfl
    refine pw_call (m' := 50) (As := [.ref 44, .ref 40, .ref 46]) (rest := []) (ls'' := [some (.ref 44), some (.ref 40), some (.ref 46), none, none]) (Nat.le_trans (by decide) hd) E rfl (fun _ => pw_iV rfl rfl rfl rfl (pw_cellI f18h rfl)) (rfl : pm_ent 50 = some (3, 5, 5, 0, pmc_50)) rfl rfl (cm_50_x28 (pw_dp hd (by decide)) I hX (K i) (V i) (pw_g h 32 w.toNat) ((i : Int) - 1) hXr hTR hXs hIN (by omega) hn8) ?_
    rintro h19 v20 ⟨h19I, h19E, x21, rfl, hx21a, hx21b, hx21r⟩
    refine ⟨_, rfl, ?_⟩
    have h19F := E0.tr (h19E.wk (W' := [28, 29, 30, 31, 32, 33, 34, 36]) (by first | rfl | simp))
    show pw X d h19 45 80 [some (.ref 44), some (.ref 40), some (.ref 46)] [pw_i x21] _
    change (x21 ≠ 0 ∧ (pt_es (pt_FF 1) (K i) (V i) (px_s 28 h (pw_g h 32 w.toNat) 1)).1 = x21) ∨ (x21 = 0 ∧ (pt_es (pt_FF 1) (K i) (V i) (px_s 28 h (pw_g h 32 w.toNat) 1)).1 = 0 ∧ px_PO 28 (pw_g h 32 w.toNat) (((i : Int) - 1) + 1) h h19 (pt_es (pt_FF 1) (K i) (V i) (px_s 28 h (pw_g h 32 w.toNat) 1)).2.1 (pt_es (pt_FF 1) (K i) (V i) (px_s 28 h (pw_g h 32 w.toNat) 1)).2) ∨ (x21 = 0 ∧ (pt_es (pt_FF 1) (K i) (V i) (px_s 28 h (pw_g h 32 w.toNat) 1)).1 = 9 ∧ px_EN 28 (pw_g h 32 w.toNat) ((i : Int) - 1) h h19 (pt_es (pt_FF 1) (K i) (V i) (px_s 28 h (pw_g h 32 w.toNat) 1)).2) at hx21r
    refine pw_iret E rfl ?_
    exact ⟨h19I, h19F, ⟨_, rfl, by omega, by omega, px_L2 hLB hLX hp6k hp8 (by omega) (by omega) (pw_Eg (c := 31) I h19E rfl rfl) (pw_Eg (c := 32) I h19E rfl rfl) (pw_Eg (c := 34) I h19E rfl rfl) hx21r⟩⟩
  · refine pw_tswJ (o := 77) E (pc' := 81) rfl (by omega) (by omega) (by omega) (by rw [hs2]; rfl) (by decide) ?_
    obtain ⟨b, w, th, C, N, hLB, hb, hF, hZ⟩ := hLS.c4 (by omega)
    refine pw_ld E (pc' := 82) (st' := [.ref 44]) rfl (fun _ => rfl) ?_
    refine pw_ld E (pc' := 83) (st' := [.ref 40, .ref 44]) rfl (fun _ => rfl) ?_
    refine pw_ld E (pc' := 84) (st' := [.ref 46, .ref 40, .ref 44]) rfl (fun _ => rfl) ?_
    obtain ⟨f22l, f22h, -⟩ := pw_obj (c := 28) I rfl
    refine pw_call (m' := 56) (As := [.ref 44, .ref 40, .ref 46]) (rest := []) (ls'' := [some (.ref 44), some (.ref 40), some (.ref 46)]) (Nat.le_trans (by decide) hd) E rfl (fun _ => pw_iV rfl rfl rfl rfl (pw_cellI f22h rfl)) (rfl : pm_ent 56 = some (3, 3, 5, 0, pmc_56)) rfl rfl (cm_56_x28 (pw_dp hd (by decide)) I hX (K i) (V i) hTR hXs hXf) ?_
    rintro h23 v24 ⟨h23I, h23E, x25, rfl, hx25a, hx25b, hx25r⟩
    refine ⟨_, rfl, ?_⟩
    have h23F := E0.tr (h23E.wk (W' := [28, 29, 30, 31, 32, 33, 34, 36]) (by first | rfl | simp))
    show pw X d h23 45 87 [some (.ref 44), some (.ref 40), some (.ref 46)] [pw_i x25] _
    change px_Q56 1 28 (K i) (V i) h h23 x25 at hx25r
    refine pw_iret E rfl ?_
    exact ⟨h23I, h23F, ⟨_, rfl, by omega, by omega, px_L4 hLB hb hF hZ hp8 hx25r (pw_Eg (c := 30) I h23E rfl rfl) (pw_Eg (c := 31) I h23E rfl rfl) (pw_Eg (c := 32) I h23E rfl rfl) (pw_Eg (c := 33) I h23E rfl rfl) (pw_Eg (c := 36) I h23E rfl rfl)⟩⟩
  · refine pw_tswD E (pc' := 88) rfl (by omega) (by omega) hs2 (by decide) ?_
    obtain ⟨b, w, th, C, N, hLB, hb, hF, hZ, hk2, hv2, hn2⟩ := hLS.c5 (by omega)
    refine pw_ld E (pc' := 89) (st' := [.ref 44]) rfl (fun _ => rfl) ?_
    refine pw_ld E (pc' := 90) (st' := [pw_i 0, .ref 44]) rfl (fun _ => rfl) ?_
    refine pw_putI I E (c := 28) (k := 7) (pc' := 93) rfl rfl rfl rfl (by omega) (by omega) (by omega) (by omega) rfl rfl ?_
    intro h26I h26E
    generalize h26w : pw_w h 28 7 (pw_i 0) = h26 at h26I h26E ⊢
    have h26F := E0.tr (h26E.wk (W' := [28, 29, 30, 31, 32, 33, 34, 36]) (by first | rfl | simp))
    have hTR1 : px_TR (K i) (V i) h26 := hTR.eq (fun k => by rw [← h26w]; exact pw_g_ne (by omega)) (fun j => by rw [← h26w]; exact pw_g_ne (by omega))
    have t24 : pw_g h26 24 4 = pw_g h 24 4 := by rw [← h26w]; exact pw_g_ne (by omega)
    have t25 : pw_g h26 24 5 = pw_g h 24 5 := by rw [← h26w]; exact pw_g_ne (by omega)
    refine pw_ld E (pc' := 94) (st' := [.ref 40]) rfl (fun _ => rfl) ?_
    refine pw_bip E (pc' := 96) rfl rfl (by decide) ?_
    obtain ⟨f27l, f27h, -⟩ := pw_obj (c := 24) h26I rfl
    refine pw_call (m' := 109) (As := [.ref 40, pw_i 59]) (rest := []) (ls'' := [some (.ref 40), some (pw_i 59)]) (Nat.le_trans (by decide) hd) E rfl (fun _ => pw_iV rfl rfl rfl rfl (pw_cellI f27h rfl)) (rfl : pm_ent 109 = some (2, 2, 9, 1, pmc_109)) rfl rfl (cm_109_x24 (pw_dp hd (by decide)) h26I (59) (by omega) (by omega)) ?_
    rintro u29 v28 ⟨rfl, x30, rfl, hx30a, hx30b, hx30r⟩
    refine ⟨_, rfl, ?_⟩
    show pw X d h26 45 99 [some (.ref 44), some (.ref 40), some (.ref 46)] [pw_i x30] _
    change (x30 = 1 ∧ pw_g h26 24 4 = 3 ∧ pw_g h26 24 5 = 59) ∨ (x30 = 0 ∧ ¬ (pw_g h26 24 4 = 3 ∧ pw_g h26 24 5 = 59)) at hx30r
    rcases (by omega : x30 = 1 ∨ x30 = 0) with hb31 | hb31
    · skip
      refine pw_if E (pc' := 106) rfl (by decide) (by omega) (by omega) ?_ ?_
      · intro hc32
        change x30 = (0 : Int) at hc32
        exfalso; omega
      · intro hc33
        change ¬ (x30 = (0 : Int)) at hc33
        refine pw_ld E (pc' := 103) (st' := [pw_i 0]) rfl (fun _ => rfl) ?_
        refine pw_goto E (pc' := 107) rfl (by decide) ?_
        refine pw_iret E rfl ?_
        exact ⟨h26I, h26F, ⟨_, rfl, by omega, by omega, px_L5 hLB hb hF hZ hk2 hv2 hn2 hp8 l0 ⟨(by rw [← h26w]; exact pw_g_eq (c := 28) (k := 7) I rfl rfl (by omega) (by omega)), fun k hk => (by rw [← h26w]; exact pw_g_ne (fun q => hk q.2.symm)), (fun j => by rw [← h26w]; exact pw_g_ne (by omega)), (fun j => by rw [← h26w]; exact pw_g_ne (by omega)), (fun j => by rw [← h26w]; exact pw_g_ne (by omega)), (fun j => by rw [← h26w]; exact pw_g_ne (by omega)), (fun j => by rw [← h26w]; exact pw_g_ne (by omega))⟩ (fun j => by rw [← h26w]; exact pw_g_ne (by omega)) (by omega)⟩⟩
    · skip
      refine pw_if E (pc' := 106) rfl (by decide) (by omega) (by omega) ?_ ?_
      · intro hc35
        change x30 = (0 : Int) at hc35
        refine pw_ld E (pc' := 107) (st' := [pw_i 1]) rfl (fun _ => rfl) ?_
        refine pw_iret E rfl ?_
        exact ⟨h26I, h26F, ⟨_, rfl, by omega, by omega, px_L5 hLB hb hF hZ hk2 hv2 hn2 hp8 l0 ⟨(by rw [← h26w]; exact pw_g_eq (c := 28) (k := 7) I rfl rfl (by omega) (by omega)), fun k hk => (by rw [← h26w]; exact pw_g_ne (fun q => hk q.2.symm)), (fun j => by rw [← h26w]; exact pw_g_ne (by omega)), (fun j => by rw [← h26w]; exact pw_g_ne (by omega)), (fun j => by rw [← h26w]; exact pw_g_ne (by omega)), (fun j => by rw [← h26w]; exact pw_g_ne (by omega)), (fun j => by rw [← h26w]; exact pw_g_ne (by omega))⟩ (fun j => by rw [← h26w]; exact pw_g_ne (by omega)) (by omega)⟩⟩
      · intro hc36
        change ¬ (x30 = (0 : Int)) at hc36
        exfalso; omega
set_option maxHeartbeats 4000000 in
theorem cm_44_x28 {X : List (Nat × List Value)} {d : Nat} {h : pm_H} (hd : 6 ≤ d) (I : pw_I h) (hX : pw_Xk X) (L : List pt_tok) (hp0 : pw_Xr X) (hp1 : pw_Xs X) (hp2 : pw_Xf X) (hp3 : pt_sg (pw_g h 25) (pw_g h 24 1).toNat 0 L (pw_g h 24 1).toNat) : pw X d h 44 0 [some (.ref 44), some (.ref 40), some (.ref 46), none, none] [] (fun h' v => pw_I h' ∧ pw_E [24, 28, 29, 30, 31, 32, 33, 34, 36] h h' ∧ ∃ a : Int, v = .inl (some (pw_i a)) ∧ (-2147483648) ≤ a ∧ a ≤ 2147483647 ∧ ((a ≠ 0 ∧ (pt_TX 1 L (pw_g h 24 1).toNat).1 = a) ∨ (a = 0 ∧ ∃ (th : Int → Int) (C : Int → List Int) (N : Int → Int), pt_TX 1 L (pw_g h 24 1).toNat = (0, th, C, N) ∧ px_ML 1 h' th C N ∧ pw_g h' 30 1 ≤ 999))) := by
  have E : pm_ent 44 = some (3, 5, 5, 0, pmc_44) := rfl
  have E0 : pw_E [24, 28, 29, 30, 31, 32, 33, 34, 36] h h := pw_E.rf _ _
  have hXr := hp0
  have hXs := hp1
  have hXf := hp2
  have hz := pw_gI (c := 24) (k := 1) I rfl rfl
  have hln := hp3.len
  have hL : L.length ≤ 1000 := by omega
  have hKn : pt_K L L.length = 0 := by unfold pt_K; rw [pt_gt2 (Nat.le_refl _)]
  have hP0 : ∀ j : Nat, 0 ≤ pt_P L (pw_g h 24 1).toNat j := fun j => by unfold pt_P; split <;> omega
  refine pw_ld E (pc' := 1) (st' := [.ref 46]) rfl (fun _ => rfl) ?_
  obtain ⟨f1l, f1h, -⟩ := pw_obj (c := 30) I rfl
  refine pw_call (m' := 68) (As := [.ref 46]) (rest := []) (ls'' := [some (.ref 46), none]) (Nat.le_trans (by decide) hd) E rfl (fun _ => pw_iV rfl rfl rfl rfl (pw_cellI f1h rfl)) (rfl : pm_ent 68 = some (1, 2, 7, 4, pmc_68)) rfl rfl (cm_68_x (pw_dp hd (by decide)) I ) ?_
  rintro h2 v3 ⟨h2I, h2E, hqcl, rfl⟩
  refine ⟨_, rfl, ?_⟩
  have h2F := E0.tr (h2E.wk (W' := [24, 28, 29, 30, 31, 32, 33, 34, 36]) (by first | rfl | simp))
  show pw X d h2 44 4 [some (.ref 44), some (.ref 40), some (.ref 46), none, none] [] _
  refine pw_ld E (pc' := 5) (st' := [.ref 40]) rfl (fun _ => rfl) ?_
  obtain ⟨f4l, f4h, -⟩ := pw_obj (c := 24) h2I rfl
  refine pw_call (m' := 100) (As := [.ref 40]) (rest := []) (ls'' := [some (.ref 40)]) (Nat.le_trans (by decide) hd) E rfl (fun _ => pw_iV rfl rfl rfl rfl (pw_cellI f4h rfl)) (rfl : pm_ent 100 = some (1, 1, 9, 4, pmc_100)) rfl rfl (cm_100_x24 (pw_dp hd (by decide)) h2I ) ?_
  rintro h5 v6 ⟨h5I, h5E, hqrw, rfl⟩
  refine ⟨_, rfl, ?_⟩
  have h5F := h2F.tr (h5E.wk (W' := [24, 28, 29, 30, 31, 32, 33, 34, 36]) (by first | rfl | simp))
  show pw X d h5 44 8 [some (.ref 44), some (.ref 40), some (.ref 46), none, none] [] _
  refine pw_ld E (pc' := 9) (st' := [.ref 44]) rfl (fun _ => rfl) ?_
  refine pw_ld E (pc' := 10) (st' := [pw_i 0, .ref 44]) rfl (fun _ => rfl) ?_
  refine pw_putI h5I E (c := 28) (k := 7) (pc' := 13) rfl rfl rfl rfl (by omega) (by omega) (by omega) (by omega) rfl rfl ?_
  intro h7I h7E
  generalize h7w : pw_w h5 28 7 (pw_i 0) = h7 at h7I h7E ⊢
  have h7F := h5F.tr (h7E.wk (W' := [24, 28, 29, 30, 31, 32, 33, 34, 36]) (by first | rfl | simp))
  have z7 : pw_g h7 28 7 = 0 := by rw [← h7w]; exact pw_g_eq (c := 28) (k := 7) h5I rfl rfl (by omega) (by omega)
  have z1 : pw_g h7 30 1 = 0 := by rw [← h7w, pw_g_ne (by omega), pw_Eg (c := 30) h2I h5E rfl rfl 1]; exact hqcl.1
  have z31 : ∀ j : Nat, j < 4 → pw_g h7 31 j = 0 := fun j hj => by rw [← h7w, pw_g_ne (by omega), pw_Eg (c := 31) h2I h5E rfl rfl j]; exact hqcl.2 j hj
  have z243 : pw_g h7 24 3 = 0 := by rw [← h7w, pw_g_ne (by omega)]; exact hqrw.1
  have z241 : pw_g h7 24 1 = pw_g h 24 1 := by rw [← h7w, pw_g_ne (by omega), hqrw.2]; exact pw_Eg (c := 24) I h2E rfl rfl 1
  have zS : pt_sg (pw_g h 25) (pw_g h 24 1).toNat (pw_g h7 24 3).toNat (L.drop (0 : Int).toNat) (pw_g h 24 1).toNat := by rw [z243]; exact hp3
  have zL : px_LS 1 28 (pt_K L) (pt_V L) (pt_P L (pw_g h 24 1).toNat) L.length (pt_TX 1 L (pw_g h 24 1).toNat) (0 : Int).toNat h7 := px_LS0 z7 z1 z31
  refine pw_ld E (pc' := 14) (st' := [pw_i 0]) rfl (fun _ => rfl) ?_
  refine pw_istn E (pc' := 15) (ls' := [some (.ref 44), some (.ref 40), some (.ref 46), some (pw_i 0), none]) rfl rfl rfl rfl ?_
  have L15 : ∀ (n15 : Nat) (k15_3 : Int) (k15_4 : Option Value) (gh15 : pm_H), pw_I gh15 → pw_E [24, 28, 29, 30, 31, 32, 33, 34, 36] h gh15 → 0 ≤ k15_3 → k15_3 ≤ 1001 → px_LS 1 28 (pt_K L) (pt_V L) (pt_P L (pw_g h 24 1).toNat) L.length (pt_TX 1 L (pw_g h 24 1).toNat) (k15_3).toNat gh15 → pt_sg (pw_g h 25) (pw_g h 24 1).toNat (pw_g gh15 24 3).toNat (L.drop (k15_3).toNat) (pw_g h 24 1).toNat → pw_g gh15 24 1 = pw_g h 24 1 → (k15_3).toNat ≤ L.length → (1001 - k15_3).toNat = n15 → pw X d gh15 44 15 [some (.ref 44), some (.ref 40), some (.ref 46), some (pw_i k15_3), k15_4] [] (fun h' v => pw_I h' ∧ pw_E [24, 28, 29, 30, 31, 32, 33, 34, 36] h h' ∧ ∃ a : Int, v = .inl (some (pw_i a)) ∧ (-2147483648) ≤ a ∧ a ≤ 2147483647 ∧ ((a ≠ 0 ∧ (pt_TX 1 L (pw_g h 24 1).toNat).1 = a) ∨ (a = 0 ∧ ∃ (th : Int → Int) (C : Int → List Int) (N : Int → Int), pt_TX 1 L (pw_g h 24 1).toNat = (0, th, C, N) ∧ px_ML 1 h' th C N ∧ pw_g h' 30 1 ≤ 999))) := by
    intro n15
    induction n15 using Nat.strongRecOn with
    | ind n15 ih15 =>
      intro k15_3 k15_4 gh15 I15 E15 k15_3a k15_3b hx15_0 hx15_1 hx15_2 hx15_3 hm15
      refine pw_ld E (pc' := 16) (st' := [pw_i k15_3]) rfl (fun _ => rfl) ?_
      refine pw_sip E (pc' := 19) rfl rfl (by decide) ?_
      refine pw_if2 E (pc' := 66) rfl (by decide) (by omega) (by omega) (by decide) (by decide) ?_ ?_
      · intro hc8
        change (1000 : Int) < k15_3 at hc8
        refine pw_ld E (pc' := 67) (st' := [pw_i 0]) rfl (fun _ => rfl) ?_
        refine pw_iret E rfl ?_
        exfalso
        omega
      · intro hc9
        change ¬ ((1000 : Int) < k15_3) at hc9
        have hlen15 := hx15_1.len
        have hend15 := pw_gI (c := 24) (k := 3) I15 rfl rfl
        refine pw_ld E (pc' := 23) (st' := [.ref 40]) rfl (fun _ => rfl) ?_
        obtain ⟨f10l, f10h, -⟩ := pw_obj (c := 24) I15 rfl
        refine pw_call (m' := 101) (As := [.ref 40]) (rest := []) (ls'' := [some (.ref 40)]) (Nat.le_trans (by decide) hd) E rfl (fun _ => pw_iV rfl rfl rfl rfl (pw_cellI f10h rfl)) (rfl : pm_ent 101 = some (1, 1, 9, 4, pmc_101)) rfl rfl (cm_101_x24 (pw_dp hd (by decide)) I15 hX hXs (by omega)) ?_
        rintro h11 v12 ⟨h11I, h11E, hqad, rfl⟩
        refine ⟨_, rfl, ?_⟩
        have h11F := E15.tr (h11E.wk (W' := [24, 28, 29, 30, 31, 32, 33, 34, 36]) (by first | rfl | simp))
        show pw X d h11 44 26 [some (.ref 44), some (.ref 40), some (.ref 46), some (pw_i k15_3), k15_4] [] _
        have hT0 : pw_g gh15 25 = pw_g h 25 := funext (fun j => pw_Eg (c := 25) I E15 rfl rfl j)
        have hz1 : pw_g gh15 24 1 = pw_g h 24 1 := hx15_2
        have hT1 : pw_g h11 25 = pw_g gh15 25 := funext (fun j => pw_Eg (c := 25) I15 h11E rfl rfl j)
        have hSg := hx15_1
        rw [← hT0, ← hz1] at hSg
        obtain ⟨hA1, hA2, hA3, hA4, hA5, hA6⟩ := px_adv hqad hT1 (by omega) (by omega) hSg
        rw [hT0, hz1] at hA4
        rw [hz1] at hA2 hA5
        have hz2 : pw_g h11 24 1 = pw_g h 24 1 := hqad.1.trans hz1
        have hLS2 : px_LS 1 28 (pt_K L) (pt_V L) (pt_P L (pw_g h 24 1).toNat) L.length (pt_TX 1 L (pw_g h 24 1).toNat) (k15_3).toNat h11 := hx15_0.eq (pw_Eg (c := 28) I15 h11E rfl rfl) (pw_Eg (c := 29) I15 h11E rfl rfl) (pw_Eg (c := 30) I15 h11E rfl rfl) (pw_Eg (c := 31) I15 h11E rfl rfl) (pw_Eg (c := 32) I15 h11E rfl rfl) (pw_Eg (c := 33) I15 h11E rfl rfl) (pw_Eg (c := 34) I15 h11E rfl rfl) (pw_Eg (c := 36) I15 h11E rfl rfl)
        refine pw_ld E (pc' := 27) (st' := [.ref 44]) rfl (fun _ => rfl) ?_
        refine pw_ld E (pc' := 28) (st' := [.ref 40, .ref 44]) rfl (fun _ => rfl) ?_
        refine pw_ld E (pc' := 29) (st' := [.ref 46, .ref 40, .ref 44]) rfl (fun _ => rfl) ?_
        obtain ⟨f13l, f13h, -⟩ := pw_obj (c := 28) h11I rfl
        refine pw_call (m' := 45) (As := [.ref 44, .ref 40, .ref 46]) (rest := []) (ls'' := [some (.ref 44), some (.ref 40), some (.ref 46)]) (Nat.le_trans (by decide) hd) E rfl (fun _ => pw_iV rfl rfl rfl rfl (pw_cellI f13h rfl)) (rfl : pm_ent 45 = some (3, 3, 5, 0, pmc_45)) rfl rfl (cm_45_x28 (pw_dp hd (by decide)) h11I hX (pt_K L) (pt_V L) (pt_P L (pw_g h 24 1).toNat) L.length (pt_TX 1 L (pw_g h 24 1).toNat) (k15_3).toNat hXr hXs hXf hLS2 hA1 (by omega) (by omega) hKn hP0) ?_
        rintro h14 v15 ⟨h14I, h14E, x16, rfl, hx16a, hx16b, hx16r⟩
        refine ⟨_, rfl, ?_⟩
        have h14F := h11F.tr (h14E.wk (W' := [24, 28, 29, 30, 31, 32, 33, 34, 36]) (by first | rfl | simp))
        show pw X d h14 44 32 [some (.ref 44), some (.ref 40), some (.ref 46), some (pw_i k15_3), k15_4] [pw_i x16] _
        change px_LN 1 28 (pt_K L) (pt_V L) (pt_P L (pw_g h 24 1).toNat) L.length (pt_TX 1 L (pw_g h 24 1).toNat) (k15_3).toNat h14 x16 at hx16r
        have e241 : pw_g h14 24 1 = pw_g h11 24 1 := pw_Eg (c := 24) h11I h14E rfl rfl 1
        have e242 : pw_g h14 24 2 = pw_g h11 24 2 := pw_Eg (c := 24) h11I h14E rfl rfl 2
        have e243 : pw_g h14 24 3 = pw_g h11 24 3 := pw_Eg (c := 24) h11I h14E rfl rfl 3
        have e244 : pw_g h14 24 4 = pw_g h11 24 4 := pw_Eg (c := 24) h11I h14E rfl rfl 4
        have hT2 : pw_g h14 25 = pw_g h 25 := (funext (fun j => pw_Eg (c := 25) h11I h14E rfl rfl j)).trans (hT1.trans hT0)
        refine pw_ist E (pc' := 34) (ls' := [some (.ref 44), some (.ref 40), some (.ref 46), some (pw_i k15_3), some (pw_i x16)]) rfl rfl rfl rfl ?_
        refine pw_ld E (pc' := 36) (st' := [pw_i x16]) rfl (fun _ => rfl) ?_
        refine pw_if E (pc' := 50) rfl (by decide) (by omega) (by omega) ?_ ?_
        · intro hc17
          change x16 = (0 : Int) at hc17
          refine pw_ld E (pc' := 51) (st' := [.ref 40]) rfl (fun _ => rfl) ?_
          obtain ⟨f18l, f18h, -⟩ := pw_obj (c := 24) h14I rfl
          refine pw_call (m' := 107) (As := [.ref 40]) (rest := []) (ls'' := [some (.ref 40)]) (Nat.le_trans (by decide) hd) E rfl (fun _ => pw_iV rfl rfl rfl rfl (pw_cellI f18h rfl)) (rfl : pm_ent 107 = some (1, 1, 9, 0, pmc_107)) rfl rfl (cm_107_x24 (pw_dp hd (by decide)) h14I ) ?_
          rintro u20 v19 ⟨rfl, x21, rfl, hx21a, hx21b, hx21r⟩
          refine ⟨_, rfl, ?_⟩
          show pw X d h14 44 54 [some (.ref 44), some (.ref 40), some (.ref 46), some (pw_i k15_3), some (pw_i x16)] [pw_i x21] _
          change x21 = pw_g h14 24 4 at hx21r
          refine pw_ld E (pc' := 55) (st' := [pw_i 4, pw_i x21]) rfl (fun _ => rfl) ?_
          refine pw_if2 E (pc' := 60) rfl (by decide) (by omega) (by omega) (by decide) (by decide) ?_ ?_
          · intro hc22
            change x21 ≠ (4 : Int) at hc22
            have hgo := (hx16r.resolve_left (fun q => q.1 (by omega))).resolve_left (fun q => hA6 (by omega) q.2.1)
            obtain ⟨hi4, hS4⟩ := hA4 hgo.2.1
            have hls4 := hgo.2.2
            rw [show (k15_3).toNat + 1 = (k15_3 + 1).toNat by omega] at hls4 hS4
            rw [← e243] at hS4
            refine pw_inc E (pc' := 63) (ls' := [some (.ref 44), some (.ref 40), some (.ref 46), some (pw_i (k15_3 + 1)), some (pw_i x16)]) rfl rfl rfl rfl ?_
            refine pw_goto E (pc' := 15) rfl (by decide) ?_
            exact ih15 _ (by omega) (k15_3 + 1) (some (pw_i x16)) h14 h14I h14F (by omega) (by omega) hls4 hS4 (by omega) (by omega) rfl
          · intro hc23
            change ¬ (x21 ≠ (4 : Int)) at hc23
            refine pw_ld E (pc' := 59) (st' := [pw_i 0]) rfl (fun _ => rfl) ?_
            refine pw_iret E rfl ?_
            obtain ⟨q0, qk, th, C, N, qR, qM, ql⟩ := (hx16r.resolve_left (fun q => q.1 (by omega))).resolve_right (fun q => q.2.1 (hA3 (by omega)))
            exact ⟨h14I, h14F, ⟨_, rfl, by omega, by omega, Or.inr ⟨rfl, th, C, N, qR, qM, by omega⟩⟩⟩
        · intro hc24
          change ¬ (x16 = (0 : Int)) at hc24
          refine pw_ld E (pc' := 41) (st' := [pw_i x16]) rfl (fun _ => rfl) ?_
          refine pw_bip E (pc' := 43) rfl rfl (by decide) ?_
          refine pw_ld E (pc' := 44) (st' := [.ref 40, pw_i 16, pw_i x16]) rfl (fun _ => rfl) ?_
          obtain ⟨f25l, f25h, -⟩ := pw_obj (c := 24) h14I rfl
          refine pw_call (m' := 111) (As := [.ref 40]) (rest := [pw_i 16, pw_i x16]) (ls'' := [some (.ref 40)]) (Nat.le_trans (by decide) hd) E rfl (fun _ => pw_iV rfl rfl rfl rfl (pw_cellI f25h rfl)) (rfl : pm_ent 111 = some (1, 1, 9, 0, pmc_111)) rfl rfl (cm_111_x24 (pw_dp hd (by decide)) h14I ) ?_
          rintro u27 v26 ⟨rfl, x28, rfl, hx28a, hx28b, hx28r⟩
          refine ⟨_, rfl, ?_⟩
          show pw X d h14 44 47 [some (.ref 44), some (.ref 40), some (.ref 46), some (pw_i k15_3), some (pw_i x16)] [pw_i x28, pw_i 16, pw_i x16] _
          change x28 = pw_g h14 24 2 at hx28r
          refine pw_mul E (pc' := 48) rfl rfl ?_
          refine pw_add E (pc' := 49) rfl rfl ?_
          refine pw_iret E rfl ?_
          have hf := (hx16r.resolve_right (fun q => by rcases q with q | q <;> (have := q.1; omega)))
          have hf2 := hf.2
          exact ⟨h14I, h14F, ⟨_, rfl, by omega, by omega, Or.inl ⟨by omega, by omega⟩⟩⟩
  have he29 : pw_g h7 24 1 = pw_g h5 24 1 := by rw [← h7w]; exact pw_g_ne (by omega)
  have he30 : pw_g h7 24 3 = pw_g h5 24 3 := by rw [← h7w]; exact pw_g_ne (by omega)
  exact L15 _ (0) (none) h7 h7I h7F (by omega) (by omega) zL zS (by omega) (by omega) rfl
end
section
/-! texts: the tape, sign by sign; every tape has its tokens -/
theorem pt_run {p : Int → Prop} {T : Nat → Int} {z : Nat} : ∀ (m k : Nat), z - k ≤ m → k < z → p (T k) → ∃ e : Nat, k < e ∧ e ≤ z ∧ (∀ j : Nat, k ≤ j → j < e → p (T j)) ∧ (e < z → ¬ p (T e)) := by
  intro m
  induction m with
  | zero => intro k h1 h2 _; exfalso; omega
  | succ m ih =>
    intro k h1 h2 h3
    by_cases q : k + 1 < z ∧ p (T (k + 1))
    · obtain ⟨e, a, b, c, d⟩ := ih (k + 1) (by omega) q.1 q.2
      refine ⟨e, by omega, b, fun j j1 j2 => ?_, d⟩
      by_cases w : j = k
      · rw [w]; exact h3
      · exact c j (by omega) j2
    · refine ⟨k + 1, by omega, by omega, fun j j1 j2 => ?_, fun w v => q ⟨w, v⟩⟩
      rw [show j = k by omega]
      exact h3
theorem pt_sg_bl1 {T : Nat → Int} {z k e : Nat} {L : List pt_tok} (b : pt_bl (T k)) (h : pt_sg T z (k + 1) L e) : pt_sg T z k L e := by
  have g : ∀ (s : Nat), k + 1 ≤ s → (∀ j : Nat, k + 1 ≤ j → j < s → pt_bl (T j)) → k ≤ s ∧ ∀ j : Nat, k ≤ j → j < s → pt_bl (T j) := fun s h1 h2 => ⟨by omega, fun j j1 j2 => by
    by_cases w : j = k
    · rw [w]; exact b
    · exact h2 j (by omega) j2⟩
  cases L with
  | nil => exact g e h.1 h.2
  | cons t L => exact ⟨g t.1 h.1.1 h.1.2, h.2⟩
theorem pt_sg_ex1 (T : Nat → Int) (z : Nat) : ∀ (m k : Nat), z - k ≤ m → k ≤ z → ∃ L : List pt_tok, pt_sg T z k L z := by
  intro m
  induction m with
  | zero =>
    intro k h1 h2
    exact ⟨[], by omega, fun j j1 j2 => by omega⟩
  | succ m ih =>
    intro k h1 h2
    by_cases q : k = z
    · exact ⟨[], by omega, fun j j1 j2 => by omega⟩
    have nil : k ≤ k ∧ ∀ j : Nat, k ≤ j → j < k → pt_bl (T j) := ⟨Nat.le_refl _, fun j j1 j2 => by omega⟩
    by_cases b : pt_bl (T k)
    · obtain ⟨L, hL⟩ := ih (k + 1) (by omega) (by omega)
      exact ⟨L, pt_sg_bl1 b hL⟩
    by_cases l : pt_le (T k)
    · obtain ⟨e, e1, e2, e3, e4⟩ := pt_run (p := pt_le) (T := T) (z := z) (z - k) k (Nat.le_refl _) (by omega) l
      obtain ⟨L, hL⟩ := ih e (by omega) e2
      exact ⟨(k, e, (if 8 < e - k then (4 : Int) else 1), pt_hw T k (min 8 (e - k))) :: L, nil, pt_taW e1 e2 e3 e4 (fun w => if_pos w) (fun w => if_neg (by omega)) rfl, hL⟩
    by_cases d : pt_di (T k)
    · obtain ⟨e, e1, e2, e3, e4⟩ := pt_run (p := pt_di) (T := T) (z := z) (z - k) k (Nat.le_refl _) (by omega) d
      obtain ⟨L, hL⟩ := ih e (by omega) e2
      exact ⟨(k, e, (if 4 < e - k then (4 : Int) else 2), pt_hd T k (min 4 (e - k))) :: L, nil, pt_taN e1 e2 e3 e4 (fun w => if_pos w) (fun w => if_neg (by omega)) rfl, hL⟩
    · obtain ⟨L, hL⟩ := ih (k + 1) (by omega) (by omega)
      by_cases s : pt_si (T k)
      · exact ⟨(k, k + 1, 3, T k) :: L, nil, pt_taS rfl (by omega) b l d (fun _ => rfl) (fun w => absurd s w) rfl, hL⟩
      · exact ⟨(k, k + 1, 4, T k) :: L, nil, pt_taS rfl (by omega) b l d (fun w => absurd w s) (fun _ => rfl) rfl, hL⟩
theorem pt_sg_ex (T : Nat → Int) (z : Nat) : ∃ L : List pt_tok, pt_sg T z 0 L z := pt_sg_ex1 T z z 0 (Nat.le_refl _) (Nat.zero_le _)
/-- only the signs there are matter -/
theorem pt_hw_cg {T T' : Nat → Int} {s : Nat} : ∀ n : Nat, (∀ j : Nat, j < n → T (s + j) = T' (s + j)) → pt_hw T s n = pt_hw T' s n := by
  intro n
  induction n with
  | zero => intro _; rfl
  | succ n ih =>
    intro H
    show 37 * pt_hw T s n + (T (s + n) - 96) = 37 * pt_hw T' s n + (T' (s + n) - 96)
    rw [ih (fun j hj => H j (by omega)), H n (by omega)]
theorem pt_hd_cg {T T' : Nat → Int} {s : Nat} : ∀ n : Nat, (∀ j : Nat, j < n → T (s + j) = T' (s + j)) → pt_hd T s n = pt_hd T' s n := by
  intro n
  induction n with
  | zero => intro _; rfl
  | succ n ih =>
    intro H
    show 10 * pt_hd T s n + (T (s + n) - 48) = 10 * pt_hd T' s n + (T' (s + n) - 48)
    rw [ih (fun j hj => H j (by omega)), H n (by omega)]
theorem pt_ta.cg {T T' : Nat → Int} {z : Nat} {t : pt_tok} (H : ∀ j : Nat, j < z → T j = T' j) (h : pt_ta T z t) : pt_ta T' z t := by
  obtain ⟨h1, h2, h3, h4⟩ := h
  have e0 := H t.1 (by omega)
  refine ⟨h1, h2, by rw [← e0]; exact h3, ?_⟩
  rcases h4 with ⟨a1, a2, a3, a4, a5, a6⟩ | ⟨a1, a2, a3, a4, a5, a6⟩ | ⟨a1, a2, a3, a4, a5, a6⟩
  · refine Or.inl ⟨by rw [← e0]; exact a1, fun j p q => by rw [← H j (by omega)]; exact a2 j p q, fun q => by rw [← H _ q]; exact a3 q, a4, a5, a6.trans (pt_hw_cg _ (fun j hj => H _ (by omega)))⟩
  · refine Or.inr (Or.inl ⟨by rw [← e0]; exact a1, fun j p q => by rw [← H j (by omega)]; exact a2 j p q, fun q => by rw [← H _ q]; exact a3 q, a4, a5, a6.trans (pt_hd_cg _ (fun j hj => H _ (by omega)))⟩)
  · rw [e0] at a1 a2 a4 a5 a6
    exact Or.inr (Or.inr ⟨a1, a2, a3, a4, a5, a6⟩)
theorem pt_sg.cg {T T' : Nat → Int} {z e : Nat} (H : ∀ j : Nat, j < z → T j = T' j) (he : e ≤ z) : ∀ {L : List pt_tok} {k : Nat}, pt_sg T z k L e → pt_sg T' z k L e
  | [], _, h => ⟨h.1, fun j p q => by rw [← H j (by omega)]; exact h.2 j p q⟩
  | t :: _, _, h => ⟨⟨h.1.1, fun j p q => by have l := h.2.1.1; have l2 := h.2.1.2.1; rw [← H j (by omega)]; exact h.1.2 j p q⟩, h.2.1.cg H, pt_sg.cg H he h.2.2⟩
/-- a sign behind the tape -/
def pb_ac (c : Int) (s : Int × (Nat → Int)) : Int × (Nat → Int) := if (c = 10 ∨ (32 ≤ c ∧ c ≤ 126)) ∧ s.1 < 1000 then (s.1 + 1, fun k => if k = s.1.toNat then c else s.2 k) else s
def pb_fd (f : Int64 → Int → Int) (w : Int64) : Nat → Int × (Nat → Int) → Int × (Nat → Int)
  | 0, s => s
  | j + 1, s => pb_ac (f w (56 - 8 * (j : Int))) (pb_fd f w j s)
theorem pb_fdS (f : Int64 → Int → Int) (w : Int64) (j : Nat) (s : Int × (Nat → Int)) : pb_fd f w (j + 1) s = pb_ac (f w (56 - 8 * (j : Int))) (pb_fd f w j s) := rfl
theorem pb_fd_cg {f g : Int64 → Int → Int} {w : Int64} (hfg : ∀ j : Nat, j < 8 → f w (56 - 8 * (j : Int)) = g w (56 - 8 * (j : Int))) : ∀ (j : Nat) (s : Int × (Nat → Int)), j ≤ 8 → pb_fd f w j s = pb_fd g w j s := by
  intro j
  induction j with
  | zero => intro s _; rfl
  | succ j ih =>
    intro s hj
    rw [pb_fdS, pb_fdS, ih s (by omega), hfg j (by omega)]
theorem pb_fd_eq (w : Int64) (s : Int × (Nat → Int)) : pb_fd pw_b97 w 8 s = pb_fd pw_b199 w 8 s := pb_fd_cg (pw_b_eq w) 8 s (Nat.le_refl 8)
def pb_c (h : pm_H) : Int × (Nat → Int) := (pw_g h 24 1, pw_g h 25)
def pb_m (h : pm_H) : Int × (Nat → Int) := (pw_g h 125 2, pw_g h 126)
/-- the same signs -/
def pb_A (s t : Int × (Nat → Int)) : Prop := s.1 = t.1 ∧ ∀ k : Nat, (k : Int) < s.1 → s.2 k = t.2 k
theorem pb_A.ac {s t : Int × (Nat → Int)} (H : pb_A s t) (c : Int) : pb_A (pb_ac c s) (pb_ac c t) := by
  obtain ⟨s1, s2⟩ := s
  obtain ⟨t1, t2⟩ := t
  obtain ⟨e, a⟩ := H
  have e : s1 = t1 := e
  subst e
  unfold pb_ac
  by_cases q : (c = 10 ∨ (32 ≤ c ∧ c ≤ 126)) ∧ s1 < 1000
  · rw [if_pos q, if_pos q]
    refine ⟨rfl, fun k hk => ?_⟩
    have hk : (k : Int) < s1 + 1 := hk
    show (if k = s1.toNat then c else s2 k) = (if k = s1.toNat then c else t2 k)
    by_cases z : k = s1.toNat
    · rw [if_pos z, if_pos z]
    · rw [if_neg z, if_neg z]
      exact a k (by show (k : Int) < s1; omega)
  · rw [if_neg q, if_neg q]
    exact ⟨rfl, a⟩
theorem pb_A.fd {s t : Int × (Nat → Int)} (H : pb_A s t) (f : Int64 → Int → Int) (w : Int64) : ∀ j : Nat, pb_A (pb_fd f w j s) (pb_fd f w j t)
  | 0 => H
  | j + 1 => (pb_A.fd H f w j).ac _
end
section
/-! the tape, sign by sign -/
set_option maxHeartbeats 4000000 in
theorem cm_97_b {X : List (Nat × List Value)} {d : Nat} {h : pm_H} (hd : 2 ≤ d) (I : pw_I h) (e8 : Int64) : pw X d h 97 0 [some (.ref 40), some (.long e8), none, none, none, none] [] (fun h' v => pw_I h' ∧ pw_E [24, 25] h h' ∧ (pb_c h' = pb_fd pw_b97 e8 8 (pb_c h)) ∧ (v = .inl none)) := by
  have E : pm_ent 97 = some (2, 6, 9, 4, pmc_97) := rfl
  have E0 : pw_E [24, 25] h h := pw_E.rf _ _
  refine pw_bip E (pc' := 2) rfl rfl (by decide) ?_
  refine pw_istn E (pc' := 3) (ls' := [some (.ref 40), some (.long e8), none, some (pw_i 56), none, none]) rfl rfl rfl rfl ?_
  have L3 : ∀ (n3 : Nat) (k3_3 : Int) (k3_4 : Option Value) (k3_5 : Option Value) (h3 : pm_H), pw_I h3 → pw_E [24, 25] h h3 → (-8) ≤ k3_3 → k3_3 ≤ 56 → (∃ j : Nat, j ≤ 8 ∧ k3_3 = 56 - 8 * (j : Int) ∧ pb_c h3 = pb_fd pw_b97 e8 j (pb_c h)) → (k3_3 + 8).toNat = n3 → pw X d h3 97 3 [some (.ref 40), some (.long e8), none, some (pw_i k3_3), k3_4, k3_5] [] (fun h' v => pw_I h' ∧ pw_E [24, 25] h h' ∧ (pb_c h' = pb_fd pw_b97 e8 8 (pb_c h)) ∧ (v = .inl none)) := by
    intro n3
    induction n3 using Nat.strongRecOn with
    | ind n3 ih3 =>
      intro k3_3 k3_4 k3_5 h3 I3 E3 k3_3a k3_3b hx3_0 hm3
      refine pw_ld E (pc' := 4) (st' := [pw_i k3_3]) rfl (fun _ => rfl) ?_
      obtain ⟨j, hj1, hj2, hj3⟩ := hx3_0
      refine pw_if E (pc' := 86) rfl (by decide) (by omega) (by omega) ?_ ?_
      · intro hc1
        change k3_3 < (0 : Int) at hc1
        refine pw_vret E rfl ?_
        exact ⟨I3, E3, ⟨(by rw [show j = 8 by omega] at hj3; exact hj3), rfl⟩⟩
      · intro hc2
        change ¬ (k3_3 < (0 : Int)) at hc2
        refine pw_ld E (pc' := 8) (st' := [.long e8]) rfl (fun _ => rfl) ?_
        refine pw_ld E (pc' := 9) (st' := [pw_i k3_3, .long e8]) rfl (fun _ => rfl) ?_
        refine pw_ld E (pc' := 10) (st' := [.long ((Int64.toUInt64 e8 >>> ((Int32.ofInt k3_3).toInt64.toUInt64 &&& Int64.toUInt64 63)).toInt64)]) rfl (fun _ => rfl) ?_
        refine pw_ld E (pc' := 13) (st' := [.long (Int64.ofNat 255), .long ((Int64.toUInt64 e8 >>> ((Int32.ofInt k3_3).toInt64.toUInt64 &&& Int64.toUInt64 63)).toInt64)]) rfl (fun _ => rfl) ?_
        refine pw_ld E (pc' := 14) (st' := [.long (((Int64.toUInt64 e8 >>> ((Int32.ofInt k3_3).toInt64.toUInt64 &&& Int64.toUInt64 63)).toInt64) &&& (Int64.ofNat 255))]) rfl (fun _ => rfl) ?_
        refine pw_l2iX E (pc' := 15) rfl rfl (fun x3 hx3a hx3b hx3c => ?_)
        refine pw_ist E (pc' := 17) (ls' := [some (.ref 40), some (.long e8), none, some (pw_i k3_3), some (pw_i x3), k3_5]) rfl rfl rfl rfl ?_
        have hby : pw_b97 e8 (56 - 8 * (j : Int)) = x3 := by rw [← hj2]; exact hx3c.symm
        refine pw_ld E (pc' := 19) (st' := [pw_i x3]) rfl (fun _ => rfl) ?_
        refine pw_bip E (pc' := 21) rfl rfl (by decide) ?_
        refine pw_if2 E (pc' := 36) rfl (by decide) (by omega) (by omega) (by decide) (by decide) ?_ ?_
        · intro hc4
          change x3 = (10 : Int) at hc4
          refine pw_ld E (pc' := 37) (st' := [pw_i 1]) rfl (fun _ => rfl) ?_
          refine pw_goto E (pc' := 41) rfl (by decide) ?_
          refine pw_ist E (pc' := 43) (ls' := [some (.ref 40), some (.long e8), none, some (pw_i k3_3), some (pw_i x3), some (pw_i 1)]) rfl rfl rfl rfl ?_
          refine pw_ld E (pc' := 45) (st' := [pw_i 1]) rfl (fun _ => rfl) ?_
          refine pw_if E (pc' := 80) rfl (by decide) (by decide) (by decide) ?_ ?_
          · intro hc5
            change (1 : Int) = (0 : Int) at hc5
            exfalso; omega
          · intro hc6
            change ¬ ((1 : Int) = (0 : Int)) at hc6
            refine pw_ld E (pc' := 49) (st' := [.ref 40]) rfl (fun _ => rfl) ?_
            refine pw_getI2 I3 E (c := 24) (k := 1) (pc' := 52) rfl rfl rfl rfl rfl rfl (fun hf7a hf7b => ?_)
            refine pw_sip E (pc' := 55) rfl rfl (by decide) ?_
            refine pw_if2 E (pc' := 80) rfl (by decide) (by omega) (by omega) (by decide) (by decide) ?_ ?_
            · intro hc8
              change (1000 : Int) ≤ pw_g h3 24 1 at hc8
              refine pw_inc E (pc' := 83) (ls' := [some (.ref 40), some (.long e8), none, some (pw_i (k3_3 + (-8))), some (pw_i x3), some (pw_i 1)]) rfl rfl rfl rfl ?_
              have oB : ∃ j : Nat, j ≤ 8 ∧ k3_3 + (-8) = 56 - 8 * (j : Int) ∧ pb_c h3 = pb_fd pw_b97 e8 j (pb_c h) := ⟨j + 1, by omega, by omega, by
                have e : ¬ ((x3 = 10 ∨ (32 ≤ x3 ∧ x3 ≤ 126)) ∧ pw_g h3 24 1 < 1000) := by omega
                rw [pb_fdS, ← hj3, hby]
                exact (if_neg e).symm⟩
              refine pw_goto E (pc' := 3) rfl (by decide) ?_
              exact ih3 _ (by omega) (k3_3 + (-8)) (some (pw_i x3)) (some (pw_i 1)) h3 I3 E3 (by omega) (by omega) oB rfl
            · intro hc9
              change ¬ ((1000 : Int) ≤ pw_g h3 24 1) at hc9
              refine pw_ld E (pc' := 59) (st' := [.ref 40]) rfl (fun _ => rfl) ?_
              refine pw_getR (b := 41) I3 E (c := 24) (k := 0) (pc' := 62) rfl rfl rfl rfl rfl rfl rfl ?_
              refine pw_ld E (pc' := 63) (st' := [.ref 40, .ref 41]) rfl (fun _ => rfl) ?_
              refine pw_getI2 I3 E (c := 24) (k := 1) (pc' := 66) rfl rfl rfl rfl rfl rfl (fun hf10a hf10b => ?_)
              refine pw_ld E (pc' := 68) (st' := [pw_i x3, pw_i (pw_g h3 24 1), .ref 41]) rfl (fun _ => rfl) ?_
              refine pw_i2c E (pc' := 69) rfl rfl (by omega) (by omega) ?_
              refine pw_ast0 I3 E (c := 25) (pc' := 70) rfl rfl rfl (by decide) rfl (by decide) (by omega) (by omega) (pw_c16 (by omega) (by omega)) (by omega) (by omega) (by omega) (by omega) rfl ?_
              intro h11I h11E
              generalize h11w : pw_w h3 25 ((pw_g h3 24 1).toNat) (pw_i x3) = h11 at h11I h11E ⊢
              have h11F := E3.tr (h11E.wk (W' := [24, 25]) (by first | rfl | simp))
              refine pw_ld E (pc' := 71) (st' := [.ref 40]) rfl (fun _ => rfl) ?_
              refine pw_ld E (pc' := 72) (st' := [.ref 40, .ref 40]) rfl (fun _ => rfl) ?_
              have he13 : pw_g h11 24 1 = pw_g h3 24 1 := by rw [← h11w]; exact pw_g_ne (by omega)
              refine pw_getI2 h11I E (c := 24) (k := 1) (pc' := 75) rfl rfl rfl rfl rfl rfl (fun hf12a hf12b => ?_)
              refine pw_ld E (pc' := 76) (st' := [pw_i 1, pw_i (pw_g h11 24 1), .ref 40]) rfl (fun _ => rfl) ?_
              refine pw_add E (pc' := 77) rfl rfl ?_
              refine pw_putI h11I E (c := 24) (k := 1) (pc' := 80) rfl rfl rfl rfl (by omega) (by omega) (by omega) (by omega) rfl rfl ?_
              intro h14I h14E
              generalize h14w : pw_w h11 24 1 (pw_i ((pw_g h11 24 1) + 1)) = h14 at h14I h14E ⊢
              have h14F := h11F.tr (h14E.wk (W' := [24, 25]) (by first | rfl | simp))
              refine pw_inc E (pc' := 83) (ls' := [some (.ref 40), some (.long e8), none, some (pw_i (k3_3 + (-8))), some (pw_i x3), some (pw_i 1)]) rfl rfl rfl rfl ?_
              have nA : pw_g h11 24 1 = pw_g h3 24 1 := by rw [← h11w]; exact pw_g_ne (by omega)
              have n1 : pw_g h14 24 1 = pw_g h3 24 1 + 1 := by rw [← nA, ← h14w]; exact pw_g_eq (c := 24) (k := 1) h11I rfl rfl (by omega) (by omega)
              have T1 : pw_g h14 25 = fun q => if q = (pw_g h3 24 1).toNat then x3 else pw_g h3 25 q := funext fun q => by
                rw [← h14w, pw_g_ne (by omega)]
                by_cases z : q = (pw_g h3 24 1).toNat
                · rw [if_pos z, z, ← h11w]; exact pw_g_eqA I3 rfl (by omega) (by omega) (by omega)
                · rw [if_neg z, ← h11w]; exact pw_g_ne (fun w => z w.2.symm)
              have oB : ∃ j : Nat, j ≤ 8 ∧ k3_3 + (-8) = 56 - 8 * (j : Int) ∧ pb_c h14 = pb_fd pw_b97 e8 j (pb_c h) := ⟨j + 1, by omega, by omega, by
                have e : (x3 = 10 ∨ (32 ≤ x3 ∧ x3 ≤ 126)) ∧ pw_g h3 24 1 < 1000 := by omega
                rw [pb_fdS, ← hj3, hby]
                show (pw_g h14 24 1, pw_g h14 25) = _
                rw [n1, T1]
                exact (if_pos e).symm⟩
              refine pw_goto E (pc' := 3) rfl (by decide) ?_
              have he15 : pw_g h14 24 1 = (pw_g h11 24 1) + 1 := by rw [← h14w]; exact pw_g_eq (c := 24) (k := 1) h11I rfl rfl (by omega) (by omega)
              exact ih3 _ (by omega) (k3_3 + (-8)) (some (pw_i x3)) (some (pw_i 1)) h14 h14I h14F (by omega) (by omega) oB rfl
        · intro hc16
          change ¬ (x3 = (10 : Int)) at hc16
          refine pw_ld E (pc' := 26) (st' := [pw_i x3]) rfl (fun _ => rfl) ?_
          refine pw_bip E (pc' := 28) rfl rfl (by decide) ?_
          refine pw_bip E (pc' := 30) rfl rfl (by decide) ?_
          refine pw_call (m' := 121) (As := [pw_i x3, pw_i 32, pw_i 126]) (rest := []) (ls'' := [some (pw_i x3), some (pw_i 32), some (pw_i 126)]) (Nat.le_trans (by decide) hd) E rfl (fun _ => pw_iS rfl rfl rfl) (rfl : pm_ent 121 = some (3, 3, 11, 1, pmc_121)) rfl rfl (cm_121 (pw_dp hd (by decide)) I3 (x3) (by omega) (by omega) (32) (by omega) (by omega) (126) (by omega) (by omega)) ?_
          rintro u18 v17 ⟨rfl, x19, rfl, hx19a, hx19b, hx19r⟩
          refine ⟨_, rfl, ?_⟩
          show pw X d h3 97 33 [some (.ref 40), some (.long e8), none, some (pw_i k3_3), some (pw_i x3), k3_5] [pw_i x19] _
          change (x19 = 1 ∧ 32 ≤ x3 ∧ x3 ≤ 126) ∨ (x19 = 0 ∧ ¬ (32 ≤ x3 ∧ x3 ≤ 126)) at hx19r
          rcases (by omega : x19 = 1 ∨ x19 = 0) with hb20 | hb20
          · skip
            refine pw_if E (pc' := 40) rfl (by decide) (by omega) (by omega) ?_ ?_
            · intro hc21
              change x19 = (0 : Int) at hc21
              exfalso; omega
            · intro hc22
              change ¬ (x19 = (0 : Int)) at hc22
              refine pw_ld E (pc' := 37) (st' := [pw_i 1]) rfl (fun _ => rfl) ?_
              refine pw_goto E (pc' := 41) rfl (by decide) ?_
              refine pw_ist E (pc' := 43) (ls' := [some (.ref 40), some (.long e8), none, some (pw_i k3_3), some (pw_i x3), some (pw_i 1)]) rfl rfl rfl rfl ?_
              refine pw_ld E (pc' := 45) (st' := [pw_i 1]) rfl (fun _ => rfl) ?_
              refine pw_if E (pc' := 80) rfl (by decide) (by decide) (by decide) ?_ ?_
              · intro hc23
                change (1 : Int) = (0 : Int) at hc23
                exfalso; omega
              · intro hc24
                change ¬ ((1 : Int) = (0 : Int)) at hc24
                refine pw_ld E (pc' := 49) (st' := [.ref 40]) rfl (fun _ => rfl) ?_
                refine pw_getI2 I3 E (c := 24) (k := 1) (pc' := 52) rfl rfl rfl rfl rfl rfl (fun hf25a hf25b => ?_)
                refine pw_sip E (pc' := 55) rfl rfl (by decide) ?_
                refine pw_if2 E (pc' := 80) rfl (by decide) (by omega) (by omega) (by decide) (by decide) ?_ ?_
                · intro hc26
                  change (1000 : Int) ≤ pw_g h3 24 1 at hc26
                  refine pw_inc E (pc' := 83) (ls' := [some (.ref 40), some (.long e8), none, some (pw_i (k3_3 + (-8))), some (pw_i x3), some (pw_i 1)]) rfl rfl rfl rfl ?_
                  have oB : ∃ j : Nat, j ≤ 8 ∧ k3_3 + (-8) = 56 - 8 * (j : Int) ∧ pb_c h3 = pb_fd pw_b97 e8 j (pb_c h) := ⟨j + 1, by omega, by omega, by
                    have e : ¬ ((x3 = 10 ∨ (32 ≤ x3 ∧ x3 ≤ 126)) ∧ pw_g h3 24 1 < 1000) := by omega
                    rw [pb_fdS, ← hj3, hby]
                    exact (if_neg e).symm⟩
                  refine pw_goto E (pc' := 3) rfl (by decide) ?_
                  exact ih3 _ (by omega) (k3_3 + (-8)) (some (pw_i x3)) (some (pw_i 1)) h3 I3 E3 (by omega) (by omega) oB rfl
                · intro hc27
                  change ¬ ((1000 : Int) ≤ pw_g h3 24 1) at hc27
                  refine pw_ld E (pc' := 59) (st' := [.ref 40]) rfl (fun _ => rfl) ?_
                  refine pw_getR (b := 41) I3 E (c := 24) (k := 0) (pc' := 62) rfl rfl rfl rfl rfl rfl rfl ?_
                  refine pw_ld E (pc' := 63) (st' := [.ref 40, .ref 41]) rfl (fun _ => rfl) ?_
                  refine pw_getI2 I3 E (c := 24) (k := 1) (pc' := 66) rfl rfl rfl rfl rfl rfl (fun hf28a hf28b => ?_)
                  refine pw_ld E (pc' := 68) (st' := [pw_i x3, pw_i (pw_g h3 24 1), .ref 41]) rfl (fun _ => rfl) ?_
                  refine pw_i2c E (pc' := 69) rfl rfl (by omega) (by omega) ?_
                  refine pw_ast0 I3 E (c := 25) (pc' := 70) rfl rfl rfl (by decide) rfl (by decide) (by omega) (by omega) (pw_c16 (by omega) (by omega)) (by omega) (by omega) (by omega) (by omega) rfl ?_
                  intro h29I h29E
                  generalize h29w : pw_w h3 25 ((pw_g h3 24 1).toNat) (pw_i x3) = h29 at h29I h29E ⊢
                  have h29F := E3.tr (h29E.wk (W' := [24, 25]) (by first | rfl | simp))
                  refine pw_ld E (pc' := 71) (st' := [.ref 40]) rfl (fun _ => rfl) ?_
                  refine pw_ld E (pc' := 72) (st' := [.ref 40, .ref 40]) rfl (fun _ => rfl) ?_
                  have he31 : pw_g h29 24 1 = pw_g h3 24 1 := by rw [← h29w]; exact pw_g_ne (by omega)
                  refine pw_getI2 h29I E (c := 24) (k := 1) (pc' := 75) rfl rfl rfl rfl rfl rfl (fun hf30a hf30b => ?_)
                  refine pw_ld E (pc' := 76) (st' := [pw_i 1, pw_i (pw_g h29 24 1), .ref 40]) rfl (fun _ => rfl) ?_
                  refine pw_add E (pc' := 77) rfl rfl ?_
                  refine pw_putI h29I E (c := 24) (k := 1) (pc' := 80) rfl rfl rfl rfl (by omega) (by omega) (by omega) (by omega) rfl rfl ?_
                  intro h32I h32E
                  generalize h32w : pw_w h29 24 1 (pw_i ((pw_g h29 24 1) + 1)) = h32 at h32I h32E ⊢
                  have h32F := h29F.tr (h32E.wk (W' := [24, 25]) (by first | rfl | simp))
                  refine pw_inc E (pc' := 83) (ls' := [some (.ref 40), some (.long e8), none, some (pw_i (k3_3 + (-8))), some (pw_i x3), some (pw_i 1)]) rfl rfl rfl rfl ?_
                  have nA : pw_g h29 24 1 = pw_g h3 24 1 := by rw [← h29w]; exact pw_g_ne (by omega)
                  have n1 : pw_g h32 24 1 = pw_g h3 24 1 + 1 := by rw [← nA, ← h32w]; exact pw_g_eq (c := 24) (k := 1) h29I rfl rfl (by omega) (by omega)
                  have T1 : pw_g h32 25 = fun q => if q = (pw_g h3 24 1).toNat then x3 else pw_g h3 25 q := funext fun q => by
                    rw [← h32w, pw_g_ne (by omega)]
                    by_cases z : q = (pw_g h3 24 1).toNat
                    · rw [if_pos z, z, ← h29w]; exact pw_g_eqA I3 rfl (by omega) (by omega) (by omega)
                    · rw [if_neg z, ← h29w]; exact pw_g_ne (fun w => z w.2.symm)
                  have oB : ∃ j : Nat, j ≤ 8 ∧ k3_3 + (-8) = 56 - 8 * (j : Int) ∧ pb_c h32 = pb_fd pw_b97 e8 j (pb_c h) := ⟨j + 1, by omega, by omega, by
                    have e : (x3 = 10 ∨ (32 ≤ x3 ∧ x3 ≤ 126)) ∧ pw_g h3 24 1 < 1000 := by omega
                    rw [pb_fdS, ← hj3, hby]
                    show (pw_g h32 24 1, pw_g h32 25) = _
                    rw [n1, T1]
                    exact (if_pos e).symm⟩
                  refine pw_goto E (pc' := 3) rfl (by decide) ?_
                  have he33 : pw_g h32 24 1 = (pw_g h29 24 1) + 1 := by rw [← h32w]; exact pw_g_eq (c := 24) (k := 1) h29I rfl rfl (by omega) (by omega)
                  exact ih3 _ (by omega) (k3_3 + (-8)) (some (pw_i x3)) (some (pw_i 1)) h32 h32I h32F (by omega) (by omega) oB rfl
          · skip
            refine pw_if E (pc' := 40) rfl (by decide) (by omega) (by omega) ?_ ?_
            · intro hc35
              change x19 = (0 : Int) at hc35
              refine pw_ld E (pc' := 41) (st' := [pw_i 0]) rfl (fun _ => rfl) ?_
              refine pw_ist E (pc' := 43) (ls' := [some (.ref 40), some (.long e8), none, some (pw_i k3_3), some (pw_i x3), some (pw_i 0)]) rfl rfl rfl rfl ?_
              refine pw_ld E (pc' := 45) (st' := [pw_i 0]) rfl (fun _ => rfl) ?_
              refine pw_if E (pc' := 80) rfl (by decide) (by decide) (by decide) ?_ ?_
              · intro hc36
                change (0 : Int) = (0 : Int) at hc36
                refine pw_inc E (pc' := 83) (ls' := [some (.ref 40), some (.long e8), none, some (pw_i (k3_3 + (-8))), some (pw_i x3), some (pw_i 0)]) rfl rfl rfl rfl ?_
                have oB : ∃ j : Nat, j ≤ 8 ∧ k3_3 + (-8) = 56 - 8 * (j : Int) ∧ pb_c h3 = pb_fd pw_b97 e8 j (pb_c h) := ⟨j + 1, by omega, by omega, by
                  have e : ¬ ((x3 = 10 ∨ (32 ≤ x3 ∧ x3 ≤ 126)) ∧ pw_g h3 24 1 < 1000) := by omega
                  rw [pb_fdS, ← hj3, hby]
                  exact (if_neg e).symm⟩
                refine pw_goto E (pc' := 3) rfl (by decide) ?_
                exact ih3 _ (by omega) (k3_3 + (-8)) (some (pw_i x3)) (some (pw_i 0)) h3 I3 E3 (by omega) (by omega) oB rfl
              · intro hc37
                change ¬ ((0 : Int) = (0 : Int)) at hc37
                exfalso; omega
            · intro hc38
              change ¬ (x19 = (0 : Int)) at hc38
              exfalso; omega
  exact L3 _ (56) (none) (none) h I E0 (by omega) (by omega) ⟨0, by omega, by omega, rfl⟩ rfl
set_option maxHeartbeats 4000000 in
theorem cm_199_b {X : List (Nat × List Value)} {d : Nat} {h : pm_H} (hd : 1 ≤ d) (I : pw_I h) (e8 : Int64) : pw X d h 199 0 [some (.ref 141), some (.long e8), none, none, none] [] (fun h' v => pw_I h' ∧ pw_E [125, 126, 1002] h h' ∧ (pb_m h' = pb_fd pw_b199 e8 8 (pb_m h)) ∧ (v = .inl none)) := by
  have E : pm_ent 199 = some (2, 5, 12, 4, pmc_199) := rfl
  have E0 : pw_E [125, 126, 1002] h h := pw_E.rf _ _
  refine pw_bip E (pc' := 2) rfl rfl (by decide) ?_
  refine pw_istn E (pc' := 3) (ls' := [some (.ref 141), some (.long e8), none, some (pw_i 56), none]) rfl rfl rfl rfl ?_
  have L3 : ∀ (n3 : Nat) (k3_3 : Int) (k3_4 : Option Value) (gh3 : pm_H), pw_I gh3 → pw_E [125, 126, 1002] h gh3 → (-8) ≤ k3_3 → k3_3 ≤ 56 → (∃ j : Nat, j ≤ 8 ∧ k3_3 = 56 - 8 * (j : Int) ∧ pb_m gh3 = pb_fd pw_b199 e8 j (pb_m h)) → (k3_3 + 8).toNat = n3 → pw X d gh3 199 3 [some (.ref 141), some (.long e8), none, some (pw_i k3_3), k3_4] [] (fun h' v => pw_I h' ∧ pw_E [125, 126, 1002] h h' ∧ (pb_m h' = pb_fd pw_b199 e8 8 (pb_m h)) ∧ (v = .inl none)) := by
    intro n3
    induction n3 using Nat.strongRecOn with
    | ind n3 ih3 =>
      intro k3_3 k3_4 gh3 I3 E3 k3_3a k3_3b hx3_0 hm3
      refine pw_ld E (pc' := 4) (st' := [pw_i k3_3]) rfl (fun _ => rfl) ?_
      obtain ⟨j, hj1, hj2, hj3⟩ := hx3_0
      refine pw_if E (pc' := 75) rfl (by decide) (by omega) (by omega) ?_ ?_
      · intro hc1
        change k3_3 < (0 : Int) at hc1
        refine pw_vret E rfl ?_
        exact ⟨I3, E3, ⟨(by rw [show j = 8 by omega] at hj3; exact hj3), rfl⟩⟩
      · intro hc2
        change ¬ (k3_3 < (0 : Int)) at hc2
        refine pw_ld E (pc' := 8) (st' := [.long e8]) rfl (fun _ => rfl) ?_
        refine pw_ld E (pc' := 9) (st' := [pw_i k3_3, .long e8]) rfl (fun _ => rfl) ?_
        refine pw_ld E (pc' := 10) (st' := [.long (e8 >>> ((Int32.ofInt k3_3).toInt64 &&& 63))]) rfl (fun _ => rfl) ?_
        refine pw_l2iX E (pc' := 11) rfl rfl (fun x3 hx3a hx3b hx3c => ?_)
        refine pw_sip E (pc' := 14) rfl rfl (by decide) ?_
        refine pw_iiE (f := fun x y => x &&& y) (c := pw_an x3 255) E (pc' := 15) rfl (fun _ => rfl) rfl ?_
        have hp4 := pw_an255 x3
        refine pw_ist E (pc' := 17) (ls' := [some (.ref 141), some (.long e8), none, some (pw_i k3_3), some (pw_i (pw_an x3 255))]) rfl rfl rfl rfl ?_
        have hby : pw_b199 e8 (56 - 8 * (j : Int)) = pw_an x3 255 := by rw [← hj2]; unfold pw_b199; rw [← hx3c]
        refine pw_ld E (pc' := 19) (st' := [pw_i (pw_an x3 255)]) rfl (fun _ => rfl) ?_
        refine pw_bip E (pc' := 21) rfl rfl (by decide) ?_
        refine pw_if2 E (pc' := 38) rfl (by decide) (by omega) (by omega) (by decide) (by decide) ?_ ?_
        · intro hc5
          change pw_an x3 255 = (10 : Int) at hc5
          refine pw_ld E (pc' := 39) (st' := [.ref 141]) rfl (fun _ => rfl) ?_
          refine pw_getI2 I3 E (c := 125) (k := 2) (pc' := 42) rfl rfl rfl rfl rfl rfl (fun hf6a hf6b => ?_)
          refine pw_sip E (pc' := 45) rfl rfl (by decide) ?_
          refine pw_if2 E (pc' := 69) rfl (by decide) (by omega) (by omega) (by decide) (by decide) ?_ ?_
          · intro hc7
            change (1000 : Int) ≤ pw_g gh3 125 2 at hc7
            refine pw_inc E (pc' := 72) (ls' := [some (.ref 141), some (.long e8), none, some (pw_i (k3_3 + (-8))), some (pw_i (pw_an x3 255))]) rfl rfl rfl rfl ?_
            have oB : ∃ j : Nat, j ≤ 8 ∧ k3_3 + (-8) = 56 - 8 * (j : Int) ∧ pb_m gh3 = pb_fd pw_b199 e8 j (pb_m h) := ⟨j + 1, by omega, by omega, by
              have e : ¬ ((pw_an x3 255 = 10 ∨ (32 ≤ pw_an x3 255 ∧ pw_an x3 255 ≤ 126)) ∧ pw_g gh3 125 2 < 1000) := by omega
              rw [pb_fdS, ← hj3, hby]
              exact (if_neg e).symm⟩
            refine pw_goto E (pc' := 3) rfl (by decide) ?_
            exact ih3 _ (by omega) (k3_3 + (-8)) (some (pw_i (pw_an x3 255))) gh3 I3 E3 (by omega) (by omega) oB rfl
          · intro hc8
            change ¬ ((1000 : Int) ≤ pw_g gh3 125 2) at hc8
            refine pw_ld E (pc' := 49) (st' := [.ref 141]) rfl (fun _ => rfl) ?_
            refine pw_getR (b := 142) I3 E (c := 125) (k := 1) (pc' := 52) rfl rfl rfl rfl rfl rfl rfl ?_
            refine pw_ld E (pc' := 53) (st' := [.ref 141, .ref 142]) rfl (fun _ => rfl) ?_
            refine pw_getI2 I3 E (c := 125) (k := 2) (pc' := 56) rfl rfl rfl rfl rfl rfl (fun hf9a hf9b => ?_)
            refine pw_ld E (pc' := 58) (st' := [pw_i (pw_an x3 255), pw_i (pw_g gh3 125 2), .ref 142]) rfl (fun _ => rfl) ?_
            refine pw_ast0 I3 E (c := 126) (pc' := 59) rfl rfl rfl (by decide) rfl (by decide) (by omega) (by omega) rfl (by omega) (by omega) (by omega) (by omega) rfl ?_
            intro h10I h10E
            generalize h10w : pw_w gh3 126 ((pw_g gh3 125 2).toNat) (pw_i (pw_an x3 255)) = h10 at h10I h10E ⊢
            have h10F := E3.tr (h10E.wk (W' := [125, 126, 1002]) (by first | rfl | simp))
            refine pw_ld E (pc' := 60) (st' := [.ref 141]) rfl (fun _ => rfl) ?_
            refine pw_ld E (pc' := 61) (st' := [.ref 141, .ref 141]) rfl (fun _ => rfl) ?_
            have he12 : pw_g h10 125 2 = pw_g gh3 125 2 := by rw [← h10w]; exact pw_g_ne (by omega)
            refine pw_getI2 h10I E (c := 125) (k := 2) (pc' := 64) rfl rfl rfl rfl rfl rfl (fun hf11a hf11b => ?_)
            refine pw_ld E (pc' := 65) (st' := [pw_i 1, pw_i (pw_g h10 125 2), .ref 141]) rfl (fun _ => rfl) ?_
            refine pw_add E (pc' := 66) rfl rfl ?_
            refine pw_putP h10I E (k := 2) (pc' := 69) rfl rfl rfl rfl (by omega) (by omega) (by omega) (by omega) rfl rfl ?_
            intro h13I h13E
            generalize h13w : pw_w h10 125 2 (pw_i ((pw_g h10 125 2) + 1)) = h13 at h13I h13E ⊢
            have h13F := h10F.tr (h13E.wk (W' := [125, 126, 1002]) (by first | rfl | simp))
            refine pw_inc E (pc' := 72) (ls' := [some (.ref 141), some (.long e8), none, some (pw_i (k3_3 + (-8))), some (pw_i (pw_an x3 255))]) rfl rfl rfl rfl ?_
            have nA : pw_g h10 125 2 = pw_g gh3 125 2 := by rw [← h10w]; exact pw_g_ne (by omega)
            have n1 : pw_g h13 125 2 = pw_g gh3 125 2 + 1 := by rw [← nA, ← h13w]; exact pw_g_eq (c := 125) (k := 2) h10I rfl rfl (by omega) (by omega)
            have T1 : pw_g h13 126 = fun q => if q = (pw_g gh3 125 2).toNat then pw_an x3 255 else pw_g gh3 126 q := funext fun q => by
              rw [← h13w, pw_g_ne (by omega)]
              by_cases z : q = (pw_g gh3 125 2).toNat
              · rw [if_pos z, z, ← h10w]; exact pw_g_eqA I3 rfl (by omega) (by omega) (by omega)
              · rw [if_neg z, ← h10w]; exact pw_g_ne (fun w => z w.2.symm)
            have oB : ∃ j : Nat, j ≤ 8 ∧ k3_3 + (-8) = 56 - 8 * (j : Int) ∧ pb_m h13 = pb_fd pw_b199 e8 j (pb_m h) := ⟨j + 1, by omega, by omega, by
              have e : (pw_an x3 255 = 10 ∨ (32 ≤ pw_an x3 255 ∧ pw_an x3 255 ≤ 126)) ∧ pw_g gh3 125 2 < 1000 := by omega
              rw [pb_fdS, ← hj3, hby]
              show (pw_g h13 125 2, pw_g h13 126) = _
              rw [n1, T1]
              exact (if_pos e).symm⟩
            refine pw_goto E (pc' := 3) rfl (by decide) ?_
            have he14 : pw_g h13 125 2 = (pw_g h10 125 2) + 1 := by rw [← h13w]; exact pw_g_eq (c := 125) (k := 2) h10I rfl rfl (by omega) (by omega)
            exact ih3 _ (by omega) (k3_3 + (-8)) (some (pw_i (pw_an x3 255))) h13 h13I h13F (by omega) (by omega) oB rfl
        · intro hc15
          change ¬ (pw_an x3 255 = (10 : Int)) at hc15
          refine pw_ld E (pc' := 26) (st' := [pw_i (pw_an x3 255)]) rfl (fun _ => rfl) ?_
          refine pw_bip E (pc' := 28) rfl rfl (by decide) ?_
          refine pw_if2 E (pc' := 69) rfl (by decide) (by omega) (by omega) (by decide) (by decide) ?_ ?_
          · intro hc16
            change pw_an x3 255 < (32 : Int) at hc16
            refine pw_inc E (pc' := 72) (ls' := [some (.ref 141), some (.long e8), none, some (pw_i (k3_3 + (-8))), some (pw_i (pw_an x3 255))]) rfl rfl rfl rfl ?_
            have oB : ∃ j : Nat, j ≤ 8 ∧ k3_3 + (-8) = 56 - 8 * (j : Int) ∧ pb_m gh3 = pb_fd pw_b199 e8 j (pb_m h) := ⟨j + 1, by omega, by omega, by
              have e : ¬ ((pw_an x3 255 = 10 ∨ (32 ≤ pw_an x3 255 ∧ pw_an x3 255 ≤ 126)) ∧ pw_g gh3 125 2 < 1000) := by omega
              rw [pb_fdS, ← hj3, hby]
              exact (if_neg e).symm⟩
            refine pw_goto E (pc' := 3) rfl (by decide) ?_
            exact ih3 _ (by omega) (k3_3 + (-8)) (some (pw_i (pw_an x3 255))) gh3 I3 E3 (by omega) (by omega) oB rfl
          · intro hc17
            change ¬ (pw_an x3 255 < (32 : Int)) at hc17
            refine pw_ld E (pc' := 33) (st' := [pw_i (pw_an x3 255)]) rfl (fun _ => rfl) ?_
            refine pw_bip E (pc' := 35) rfl rfl (by decide) ?_
            refine pw_if2 E (pc' := 69) rfl (by decide) (by omega) (by omega) (by decide) (by decide) ?_ ?_
            · intro hc18
              change (126 : Int) < pw_an x3 255 at hc18
              refine pw_inc E (pc' := 72) (ls' := [some (.ref 141), some (.long e8), none, some (pw_i (k3_3 + (-8))), some (pw_i (pw_an x3 255))]) rfl rfl rfl rfl ?_
              have oB : ∃ j : Nat, j ≤ 8 ∧ k3_3 + (-8) = 56 - 8 * (j : Int) ∧ pb_m gh3 = pb_fd pw_b199 e8 j (pb_m h) := ⟨j + 1, by omega, by omega, by
                have e : ¬ ((pw_an x3 255 = 10 ∨ (32 ≤ pw_an x3 255 ∧ pw_an x3 255 ≤ 126)) ∧ pw_g gh3 125 2 < 1000) := by omega
                rw [pb_fdS, ← hj3, hby]
                exact (if_neg e).symm⟩
              refine pw_goto E (pc' := 3) rfl (by decide) ?_
              exact ih3 _ (by omega) (k3_3 + (-8)) (some (pw_i (pw_an x3 255))) gh3 I3 E3 (by omega) (by omega) oB rfl
            · intro hc19
              change ¬ ((126 : Int) < pw_an x3 255) at hc19
              refine pw_ld E (pc' := 39) (st' := [.ref 141]) rfl (fun _ => rfl) ?_
              refine pw_getI2 I3 E (c := 125) (k := 2) (pc' := 42) rfl rfl rfl rfl rfl rfl (fun hf20a hf20b => ?_)
              refine pw_sip E (pc' := 45) rfl rfl (by decide) ?_
              refine pw_if2 E (pc' := 69) rfl (by decide) (by omega) (by omega) (by decide) (by decide) ?_ ?_
              · intro hc21
                change (1000 : Int) ≤ pw_g gh3 125 2 at hc21
                refine pw_inc E (pc' := 72) (ls' := [some (.ref 141), some (.long e8), none, some (pw_i (k3_3 + (-8))), some (pw_i (pw_an x3 255))]) rfl rfl rfl rfl ?_
                have oB : ∃ j : Nat, j ≤ 8 ∧ k3_3 + (-8) = 56 - 8 * (j : Int) ∧ pb_m gh3 = pb_fd pw_b199 e8 j (pb_m h) := ⟨j + 1, by omega, by omega, by
                  have e : ¬ ((pw_an x3 255 = 10 ∨ (32 ≤ pw_an x3 255 ∧ pw_an x3 255 ≤ 126)) ∧ pw_g gh3 125 2 < 1000) := by omega
                  rw [pb_fdS, ← hj3, hby]
                  exact (if_neg e).symm⟩
                refine pw_goto E (pc' := 3) rfl (by decide) ?_
                exact ih3 _ (by omega) (k3_3 + (-8)) (some (pw_i (pw_an x3 255))) gh3 I3 E3 (by omega) (by omega) oB rfl
              · intro hc22
                change ¬ ((1000 : Int) ≤ pw_g gh3 125 2) at hc22
                refine pw_ld E (pc' := 49) (st' := [.ref 141]) rfl (fun _ => rfl) ?_
                refine pw_getR (b := 142) I3 E (c := 125) (k := 1) (pc' := 52) rfl rfl rfl rfl rfl rfl rfl ?_
                refine pw_ld E (pc' := 53) (st' := [.ref 141, .ref 142]) rfl (fun _ => rfl) ?_
                refine pw_getI2 I3 E (c := 125) (k := 2) (pc' := 56) rfl rfl rfl rfl rfl rfl (fun hf23a hf23b => ?_)
                refine pw_ld E (pc' := 58) (st' := [pw_i (pw_an x3 255), pw_i (pw_g gh3 125 2), .ref 142]) rfl (fun _ => rfl) ?_
                refine pw_ast0 I3 E (c := 126) (pc' := 59) rfl rfl rfl (by decide) rfl (by decide) (by omega) (by omega) rfl (by omega) (by omega) (by omega) (by omega) rfl ?_
                intro h24I h24E
                generalize h24w : pw_w gh3 126 ((pw_g gh3 125 2).toNat) (pw_i (pw_an x3 255)) = h24 at h24I h24E ⊢
                have h24F := E3.tr (h24E.wk (W' := [125, 126, 1002]) (by first | rfl | simp))
                refine pw_ld E (pc' := 60) (st' := [.ref 141]) rfl (fun _ => rfl) ?_
                refine pw_ld E (pc' := 61) (st' := [.ref 141, .ref 141]) rfl (fun _ => rfl) ?_
                have he26 : pw_g h24 125 2 = pw_g gh3 125 2 := by rw [← h24w]; exact pw_g_ne (by omega)
                refine pw_getI2 h24I E (c := 125) (k := 2) (pc' := 64) rfl rfl rfl rfl rfl rfl (fun hf25a hf25b => ?_)
                refine pw_ld E (pc' := 65) (st' := [pw_i 1, pw_i (pw_g h24 125 2), .ref 141]) rfl (fun _ => rfl) ?_
                refine pw_add E (pc' := 66) rfl rfl ?_
                refine pw_putP h24I E (k := 2) (pc' := 69) rfl rfl rfl rfl (by omega) (by omega) (by omega) (by omega) rfl rfl ?_
                intro h27I h27E
                generalize h27w : pw_w h24 125 2 (pw_i ((pw_g h24 125 2) + 1)) = h27 at h27I h27E ⊢
                have h27F := h24F.tr (h27E.wk (W' := [125, 126, 1002]) (by first | rfl | simp))
                refine pw_inc E (pc' := 72) (ls' := [some (.ref 141), some (.long e8), none, some (pw_i (k3_3 + (-8))), some (pw_i (pw_an x3 255))]) rfl rfl rfl rfl ?_
                have nA : pw_g h24 125 2 = pw_g gh3 125 2 := by rw [← h24w]; exact pw_g_ne (by omega)
                have n1 : pw_g h27 125 2 = pw_g gh3 125 2 + 1 := by rw [← nA, ← h27w]; exact pw_g_eq (c := 125) (k := 2) h24I rfl rfl (by omega) (by omega)
                have T1 : pw_g h27 126 = fun q => if q = (pw_g gh3 125 2).toNat then pw_an x3 255 else pw_g gh3 126 q := funext fun q => by
                  rw [← h27w, pw_g_ne (by omega)]
                  by_cases z : q = (pw_g gh3 125 2).toNat
                  · rw [if_pos z, z, ← h24w]; exact pw_g_eqA I3 rfl (by omega) (by omega) (by omega)
                  · rw [if_neg z, ← h24w]; exact pw_g_ne (fun w => z w.2.symm)
                have oB : ∃ j : Nat, j ≤ 8 ∧ k3_3 + (-8) = 56 - 8 * (j : Int) ∧ pb_m h27 = pb_fd pw_b199 e8 j (pb_m h) := ⟨j + 1, by omega, by omega, by
                  have e : (pw_an x3 255 = 10 ∨ (32 ≤ pw_an x3 255 ∧ pw_an x3 255 ≤ 126)) ∧ pw_g gh3 125 2 < 1000 := by omega
                  rw [pb_fdS, ← hj3, hby]
                  show (pw_g h27 125 2, pw_g h27 126) = _
                  rw [n1, T1]
                  exact (if_pos e).symm⟩
                refine pw_goto E (pc' := 3) rfl (by decide) ?_
                have he28 : pw_g h27 125 2 = (pw_g h24 125 2) + 1 := by rw [← h27w]; exact pw_g_eq (c := 125) (k := 2) h24I rfl rfl (by omega) (by omega)
                exact ih3 _ (by omega) (k3_3 + (-8)) (some (pw_i (pw_an x3 255))) h27 h27I h27F (by omega) (by omega) oB rfl
  exact L3 _ (56) (none) h I E0 (by omega) (by omega) ⟨0, by omega, by omega, rfl⟩ rfl
set_option maxHeartbeats 4000000 in
theorem cm_98_b {X : List (Nat × List Value)} {d : Nat} {h : pm_H} (hd : 1 ≤ d) (I : pw_I h)  : pw X d h 98 0 [some (.ref 40)] [] (fun h' v => h = h' ∧ ∃ a : Int, v = .inl (some (pw_i a)) ∧ 0 ≤ a ∧ a ≤ 1000 ∧ (a = pw_g h 24 1)) := by
  have E : pm_ent 98 = some (1, 1, 9, 0, pmc_98) := rfl
  refine pw_ld E (pc' := 1) (st' := [.ref 40]) rfl (fun _ => rfl) ?_
  refine pw_getI2 I E (c := 24) (k := 1) (pc' := 4) rfl rfl rfl rfl rfl rfl (fun hf1a hf1b => ?_)
  refine pw_iret E rfl ?_
  exact ⟨rfl, ⟨_, rfl, by omega, by omega, by omega⟩⟩
set_option maxHeartbeats 4000000 in
theorem cm_140_b {X : List (Nat × List Value)} {d : Nat} {h : pm_H} (hd : 3 ≤ d) (I : pw_I h) (x : Int64) (y : Int64) (z : Int64) : pw X d h 140 0 [some (.ref 16), some (.long x), none, some (.long y), none, some (.long z), none] [] (fun h' v => pw_I h' ∧ pw_E [24, 25] h h' ∧ ∃ a : Int, v = .inl (some (pw_i a)) ∧ (-2147483648) ≤ a ∧ a ≤ 2147483647 ∧ (a = pw_g h' 24 1 ∧ pb_c h' = pb_fd pw_b97 z 8 (pb_fd pw_b97 y 8 (pb_fd pw_b97 x 8 (pb_c h))))) := by
  have E : pm_ent 140 = some (4, 7, 11, 0, pmc_140) := rfl
  have E0 : pw_E [24, 25] h h := pw_E.rf _ _
  refine pw_ld E (pc' := 1) (st' := [.ref 16]) rfl (fun _ => rfl) ?_
  refine pw_getR (b := 40) I E (c := 0) (k := 10) (pc' := 4) rfl rfl rfl rfl rfl rfl rfl ?_
  refine pw_ld E (pc' := 5) (st' := [.long x, .ref 40]) rfl (fun _ => rfl) ?_
  obtain ⟨f1l, f1h, -⟩ := pw_obj (c := 24) I rfl
  refine pw_call (m' := 97) (As := [.ref 40, .long x]) (rest := []) (ls'' := [some (.ref 40), some (.long x), none, none, none, none]) (Nat.le_trans (by decide) hd) E rfl (fun _ => pw_iV rfl rfl rfl rfl (pw_cellI f1h rfl)) (rfl : pm_ent 97 = some (2, 6, 9, 4, pmc_97)) rfl rfl (cm_97_b (pw_dp hd (by decide)) I (x)) ?_
  rintro h2 v3 ⟨h2I, h2E, hqf1, rfl⟩
  refine ⟨_, rfl, ?_⟩
  have h2F := E0.tr (h2E.wk (W' := [24, 25]) (by first | rfl | simp))
  show pw X d h2 140 8 [some (.ref 16), some (.long x), none, some (.long y), none, some (.long z), none] [] _
  refine pw_ld E (pc' := 9) (st' := [.ref 16]) rfl (fun _ => rfl) ?_
  refine pw_getR (b := 40) h2I E (c := 0) (k := 10) (pc' := 12) rfl rfl rfl rfl rfl rfl rfl ?_
  refine pw_ld E (pc' := 13) (st' := [.long y, .ref 40]) rfl (fun _ => rfl) ?_
  obtain ⟨f4l, f4h, -⟩ := pw_obj (c := 24) h2I rfl
  refine pw_call (m' := 97) (As := [.ref 40, .long y]) (rest := []) (ls'' := [some (.ref 40), some (.long y), none, none, none, none]) (Nat.le_trans (by decide) hd) E rfl (fun _ => pw_iV rfl rfl rfl rfl (pw_cellI f4h rfl)) (rfl : pm_ent 97 = some (2, 6, 9, 4, pmc_97)) rfl rfl (cm_97_b (pw_dp hd (by decide)) h2I (y)) ?_
  rintro h5 v6 ⟨h5I, h5E, hqf2, rfl⟩
  refine ⟨_, rfl, ?_⟩
  have h5F := h2F.tr (h5E.wk (W' := [24, 25]) (by first | rfl | simp))
  show pw X d h5 140 16 [some (.ref 16), some (.long x), none, some (.long y), none, some (.long z), none] [] _
  refine pw_ld E (pc' := 17) (st' := [.ref 16]) rfl (fun _ => rfl) ?_
  refine pw_getR (b := 40) h5I E (c := 0) (k := 10) (pc' := 20) rfl rfl rfl rfl rfl rfl rfl ?_
  refine pw_ld E (pc' := 22) (st' := [.long z, .ref 40]) rfl (fun _ => rfl) ?_
  obtain ⟨f7l, f7h, -⟩ := pw_obj (c := 24) h5I rfl
  refine pw_call (m' := 97) (As := [.ref 40, .long z]) (rest := []) (ls'' := [some (.ref 40), some (.long z), none, none, none, none]) (Nat.le_trans (by decide) hd) E rfl (fun _ => pw_iV rfl rfl rfl rfl (pw_cellI f7h rfl)) (rfl : pm_ent 97 = some (2, 6, 9, 4, pmc_97)) rfl rfl (cm_97_b (pw_dp hd (by decide)) h5I (z)) ?_
  rintro h8 v9 ⟨h8I, h8E, hqf3, rfl⟩
  refine ⟨_, rfl, ?_⟩
  have h8F := h5F.tr (h8E.wk (W' := [24, 25]) (by first | rfl | simp))
  show pw X d h8 140 25 [some (.ref 16), some (.long x), none, some (.long y), none, some (.long z), none] [] _
  refine pw_ld E (pc' := 26) (st' := [.ref 16]) rfl (fun _ => rfl) ?_
  refine pw_getR (b := 40) h8I E (c := 0) (k := 10) (pc' := 29) rfl rfl rfl rfl rfl rfl rfl ?_
  obtain ⟨f10l, f10h, -⟩ := pw_obj (c := 24) h8I rfl
  refine pw_call (m' := 98) (As := [.ref 40]) (rest := []) (ls'' := [some (.ref 40)]) (Nat.le_trans (by decide) hd) E rfl (fun _ => pw_iV rfl rfl rfl rfl (pw_cellI f10h rfl)) (rfl : pm_ent 98 = some (1, 1, 9, 0, pmc_98)) rfl rfl (cm_98_b (pw_dp hd (by decide)) h8I ) ?_
  rintro u12 v11 ⟨rfl, x13, rfl, hx13a, hx13b, hx13r⟩
  refine ⟨_, rfl, ?_⟩
  show pw X d h8 140 32 [some (.ref 16), some (.long x), none, some (.long y), none, some (.long z), none] [pw_i x13] _
  change x13 = pw_g h8 24 1 at hx13r
  refine pw_iret E rfl ?_
  exact ⟨h8I, h8F, ⟨_, rfl, by omega, by omega, hx13r, by rw [hqf3, hqf2, hqf1]⟩⟩
set_option maxHeartbeats 4000000 in
theorem cm_198_b {X : List (Nat × List Value)} {d : Nat} {h : pm_H} (hd : 2 ≤ d) (I : pw_I h) (x : Int64) (y : Int64) (z : Int64) : pw X d h 198 0 [some (.ref 141), some (.long x), none, some (.long y), none, some (.long z), none] [] (fun h' v => pw_I h' ∧ pw_E [125, 126, 1002] h h' ∧ ∃ a : Int, v = .inl (some (pw_i a)) ∧ (-2147483648) ≤ a ∧ a ≤ 2147483647 ∧ (a = pw_g h' 125 2 ∧ pb_m h' = pb_fd pw_b199 z 8 (pb_fd pw_b199 y 8 (pb_fd pw_b199 x 8 (pb_m h))))) := by
  have E : pm_ent 198 = some (4, 7, 12, 0, pmc_198) := rfl
  have E0 : pw_E [125, 126, 1002] h h := pw_E.rf _ _
  refine pw_ld E (pc' := 1) (st' := [.ref 141]) rfl (fun _ => rfl) ?_
  refine pw_ld E (pc' := 2) (st' := [pw_i 0, .ref 141]) rfl (fun _ => rfl) ?_
  refine pw_putI I E (c := 125) (k := 0) (pc' := 5) rfl rfl rfl rfl (by omega) (by omega) (by omega) (by omega) rfl rfl ?_
  intro h1I h1E
  generalize h1w : pw_w h 125 0 (pw_i 0) = h1 at h1I h1E ⊢
  have h1F := E0.tr (h1E.wk (W' := [125, 126, 1002]) (by first | rfl | simp))
  refine pw_ld E (pc' := 6) (st' := [.ref 141]) rfl (fun _ => rfl) ?_
  refine pw_ld E (pc' := 7) (st' := [.long x, .ref 141]) rfl (fun _ => rfl) ?_
  obtain ⟨f2l, f2h, -⟩ := pw_obj (c := 125) h1I rfl
  refine pw_call (m' := 199) (As := [.ref 141, .long x]) (rest := []) (ls'' := [some (.ref 141), some (.long x), none, none, none]) (Nat.le_trans (by decide) hd) E rfl (fun _ => pw_iV rfl rfl rfl rfl (pw_cellI f2h rfl)) (rfl : pm_ent 199 = some (2, 5, 12, 4, pmc_199)) rfl rfl (cm_199_b (pw_dp hd (by decide)) h1I (x)) ?_
  rintro h3 v4 ⟨h3I, h3E, hqf1, rfl⟩
  refine ⟨_, rfl, ?_⟩
  have h3F := h1F.tr (h3E.wk (W' := [125, 126, 1002]) (by first | rfl | simp))
  show pw X d h3 198 10 [some (.ref 141), some (.long x), none, some (.long y), none, some (.long z), none] [] _
  refine pw_ld E (pc' := 11) (st' := [.ref 141]) rfl (fun _ => rfl) ?_
  refine pw_ld E (pc' := 12) (st' := [.long y, .ref 141]) rfl (fun _ => rfl) ?_
  obtain ⟨f5l, f5h, -⟩ := pw_obj (c := 125) h3I rfl
  refine pw_call (m' := 199) (As := [.ref 141, .long y]) (rest := []) (ls'' := [some (.ref 141), some (.long y), none, none, none]) (Nat.le_trans (by decide) hd) E rfl (fun _ => pw_iV rfl rfl rfl rfl (pw_cellI f5h rfl)) (rfl : pm_ent 199 = some (2, 5, 12, 4, pmc_199)) rfl rfl (cm_199_b (pw_dp hd (by decide)) h3I (y)) ?_
  rintro h6 v7 ⟨h6I, h6E, hqf2, rfl⟩
  refine ⟨_, rfl, ?_⟩
  have h6F := h3F.tr (h6E.wk (W' := [125, 126, 1002]) (by first | rfl | simp))
  show pw X d h6 198 15 [some (.ref 141), some (.long x), none, some (.long y), none, some (.long z), none] [] _
  refine pw_ld E (pc' := 16) (st' := [.ref 141]) rfl (fun _ => rfl) ?_
  refine pw_ld E (pc' := 18) (st' := [.long z, .ref 141]) rfl (fun _ => rfl) ?_
  obtain ⟨f8l, f8h, -⟩ := pw_obj (c := 125) h6I rfl
  refine pw_call (m' := 199) (As := [.ref 141, .long z]) (rest := []) (ls'' := [some (.ref 141), some (.long z), none, none, none]) (Nat.le_trans (by decide) hd) E rfl (fun _ => pw_iV rfl rfl rfl rfl (pw_cellI f8h rfl)) (rfl : pm_ent 199 = some (2, 5, 12, 4, pmc_199)) rfl rfl (cm_199_b (pw_dp hd (by decide)) h6I (z)) ?_
  rintro h9 v10 ⟨h9I, h9E, hqf3, rfl⟩
  refine ⟨_, rfl, ?_⟩
  have h9F := h6F.tr (h9E.wk (W' := [125, 126, 1002]) (by first | rfl | simp))
  show pw X d h9 198 21 [some (.ref 141), some (.long x), none, some (.long y), none, some (.long z), none] [] _
  refine pw_ld E (pc' := 22) (st' := [.ref 141]) rfl (fun _ => rfl) ?_
  refine pw_getI2 h9I E (c := 125) (k := 2) (pc' := 25) rfl rfl rfl rfl rfl rfl (fun hf11a hf11b => ?_)
  refine pw_iret E rfl ?_
  have h20 : pb_m h1 = pb_m h := by unfold pb_m; rw [show pw_g h1 125 2 = pw_g h 125 2 from by rw [← h1w]; exact pw_g_ne (by omega), show pw_g h1 126 = pw_g h 126 from funext fun j => by rw [← h1w]; exact pw_g_ne (by omega)]
  exact ⟨h9I, h9F, ⟨_, rfl, by omega, by omega, rfl, by rw [hqf3, hqf2, hqf1, h20]⟩⟩
end
section
/-! a new row of ints: Arrays.copyOf, Script.copyOf -/
/-- as pw_E, but one cell of at most 1000 may be new -/
def pw_G (W : List Nat) (h h' : pm_H) : Prop := (h.length ≤ h'.length ∧ h'.length ≤ h.length + 1 ∧ pm_slt h ≤ pm_slt h' ∧ pm_slt h' ≤ pm_slt h + 1000) ∧ ∀ c : Nat, c < h.length → c ∉ W → h'[c]? = h[c]?
theorem pw_E.G {W : List Nat} {a b : pm_H} (h1 : pw_E W a b) : pw_G W a b := ⟨⟨by rw [h1.1.1]; exact Nat.le_refl _, by rw [h1.1.1]; omega, by rw [h1.1.2]; exact Nat.le_refl _, by rw [h1.1.2]; omega⟩, h1.2.1⟩
theorem pw_G.tE {W : List Nat} {a b c : pm_H} (h1 : pw_G W a b) (h2 : pw_E W b c) : pw_G W a c := ⟨by rw [h2.1.1, h2.1.2]; exact h1.1, fun q hq hn => (h2.2.1 q (Nat.lt_of_lt_of_le hq h1.1.1) hn).trans (h1.2 q hq hn)⟩
theorem pw_E.tG {W : List Nat} {a b c : pm_H} (h1 : pw_E W a b) (h2 : pw_G W b c) : pw_G W a c := ⟨by rw [← h1.1.1, ← h1.1.2]; exact h2.1, fun q hq hn => (h2.2 q (by rw [h1.1.1]; exact hq) hn).trans (h1.2.1 q hq hn)⟩
theorem pw_G.wk {W W' : List Nat} {a b : pm_H} (h1 : pw_G W a b) (hs : W.all (fun c => W'.contains c) = true) : pw_G W' a b := ⟨h1.1, fun q hq hn => h1.2 q hq fun hm => hn (by
  have := List.all_eq_true.mp hs q hm
  exact List.contains_iff_mem.mp this)⟩
theorem pw_Gg {h h' : pm_H} {c : Nat} {W : List Nat} {s : pw_S} (I : pw_I h) (E : pw_G W h h') (hs : pw_T[c]? = some s) (hn : W.contains c = false) (k : Nat) : pw_at h' c k = pw_at h c k := by
  obtain ⟨q, h1, -⟩ := I.1 c _ hs
  unfold pw_at
  rw [E.2 c (List.getElem?_eq_some_iff.mp h1).1 (fun hm => by
    have := List.contains_iff_mem.mpr hm
    rw [hn] at this; cases this)]
theorem pw_vk_push {h : pm_H} {x : pm_C} {sp : pw_F} {v : Value} (hv : pw_vk h sp v) : pw_vk (h ++ [x]) sp v := by
  obtain ⟨k, lo, hi⟩ := sp
  have key : (∃ (c : Nat) (l : List Value), v = .ref (16 + c) ∧ h[c]? = some (.inl (0, l)) ∧ l.length ≤ 1000 ∧ pw_ints l) → ∃ (c2 : Nat) (l : List Value), v = .ref (16 + c2) ∧ (h ++ [x])[c2]? = some (.inl (0, l)) ∧ l.length ≤ 1000 ∧ pw_ints l := by
    rintro ⟨c2, l, e1, e2, e3⟩
    exact ⟨c2, l, e1, by rw [List.getElem?_append_left (List.getElem?_eq_some_iff.mp e2).1]; exact e2, e3⟩
  match k, hv with
  | 0, hv => exact hv
  | 1, hv => exact hv
  | 2, hv => exact hv
  | 4, hv => exact hv
  | 3, hv => exact key hv
  | k + 5, hv => exact key hv
theorem pw_ok_push {h : pm_H} {y : pm_C} {s : pw_S} {x : pm_C} (hv : pw_ok h s x) : pw_ok (h ++ [y]) s x := by
  match s, x, hv with
  | .inl _, .inl _, hv => exact hv
  | .inr (ci, sps), .inr (cj, fs), hv => exact ⟨hv.1, hv.2.1, fun k sp v g1 g2 => pw_vk_push (hv.2.2 k sp v g1 g2)⟩
theorem pw_scv_mono {n m : Nat} (hn : n ≤ m) {v : Value} (h : pm_scv n v = true) : pm_scv m v = true := by
  cases v with
  | ref a => exact Nat.blt_eq.mpr (Nat.lt_of_lt_of_le (Nat.blt_eq.mp h) hn)
  | _ => rfl
theorem pw_scc_mono {n m : Nat} (hn : n ≤ m) {c : pm_C} (h : pm_scc n c = true) : pm_scc m c = true := by
  match c, h with
  | .inl q, h =>
    have h : cond (Nat.blt q.1 5) true (pm_all (pm_scv n) q.2) = true := h
    show cond (Nat.blt q.1 5) true (pm_all (pm_scv m) q.2) = true
    cases hb : Nat.blt q.1 5 with
    | true => rfl
    | false =>
      rw [hb] at h
      have h : pm_all (pm_scv n) q.2 = true := h
      show pm_all (pm_scv m) q.2 = true
      rw [pm_all_eq, List.all_eq_true] at h ⊢
      exact fun v hv => pw_scv_mono hn (h v hv)
  | .inr q, h =>
    have h : pm_all (pm_scv n) q.2 = true := h
    show pm_all (pm_scv m) q.2 = true
    rw [pm_all_eq, List.all_eq_true] at h ⊢
    exact fun v hv => pw_scv_mono hn (h v hv)
theorem pw_I_push {h : pm_H} {t : Nat} {l : List Value} (ht : Nat.blt t 5 = true) (I : pw_I h) : pw_I (h ++ [.inl (t, l)]) := by
  refine ⟨fun c s hT => ?_, ?_⟩
  · obtain ⟨q, h1, h2⟩ := I.1 c s hT
    exact ⟨q, by rw [List.getElem?_append_left (List.getElem?_eq_some_iff.mp h1).1]; exact h1, pw_ok_push h2⟩
  · have h1 := I.2
    unfold pm_scH at h1 ⊢
    rw [pm_all_eq, List.all_eq_true, pm_len_eq] at h1 ⊢
    intro c hc
    rw [List.length_append]
    rcases List.mem_append.mp hc with g | g
    · exact pw_scc_mono (by simp) (h1 c g)
    · rw [List.mem_singleton.mp g]
      show cond (Nat.blt t 5) true _ = true
      rw [ht]; rfl
section Pn
variable {X : List (Nat × List Value)} {d : Nat} {h : pm_H} {m pc pc' len na nl own rt : Nat} {C : pm_T (Instr × Nat)} {ls : pm_L} {r : List Value} {Q : pm_H → (Option Value ⊕ Unit) → Prop} {i : Instr}
theorem pw_newi {n : Int} (he : pm_ent m = some (na, nl, own, rt, C)) (hq : pm_get C pc = some (.newarray .int, len)) (hc : pc + len = pc') (h0 : 0 ≤ n) (h1 : n ≤ 60000) (H : pw X d (h ++ [.inl (0, List.replicate n.toNat (.int 0))]) m pc' ls (.ref (16 + h.length) :: r) Q) : pw X d h m pc ls (pw_i n :: r) Q := by
  subst hc
  refine pw_go he hq (fun ih => ?_) H
  show cond (decide (Int32.ofInt n < 0)) none (cond (Nat.ble (Int32.ofInt n).toNatClampNeg 60000) (cond (Nat.blt 0 5) (pm_fn (pm_len h) fun z => pm_fn (pc + len) fun q => ih d (h ++ [.inl (0, pm_rep (Int32.ofInt n).toNatClampNeg (.int 0))]) m q ls (.ref (16 + z) :: r)) none) none) = _
  rw [decide_eq_false (pw_neg h0 (by omega)), cond_false, pw_clamp h0 (by omega), Nat.ble_eq_true_of_le (by omega), cond_true, pm_fn_eq, pm_fn_eq, pm_len_eq, pm_rep_eq]
  rfl
theorem pw_cpyN {ix c q a a2 : Nat} {l l' : List Value} {n : Int} (he : pm_ent m = some (na, nl, own, rt, C)) (hq : pm_get C pc = some (.invokestatic ix, len)) (hl : pm_get (pm_lnk own) ix = some (12, 5, 0, 0)) (e1 : h[c]? = some (.inl (0, l))) (f1 : h[q]? = some (.inl (0, l'))) (h0 : 0 ≤ n) (h1 : n ≤ 60000) (hn : n.toNat ≤ l.length) (hn2 : n.toNat = l'.length) (ha : 16 + c = a) (ha2 : 16 + q = a2) (h8 : pm_cat8 r = true)
    (H : pw X d (h.set q (.inl (0, l.take n.toNat))) m (pc + 3) ls r Q) : pw X d h m pc ls (pw_i n :: pw_i 0 :: .ref a2 :: pw_i 0 :: .ref a :: r) Q := by
  refine pw_go he hq (fun ih => ?_) H
  refine (pw_prim0 (len := len) hl rfl).trans ?_
  show (match pm_row X h a, pm_cell h a2 with
    | some (t, l), some (.inl (t', l')) => cond (Nat.beq t 0 && (Nat.beq t' 0 && (Nat.ble 16 a && (!decide (Int32.ofInt n < 0) && (!decide (Int32.ofInt 0 < 0) && (!decide (Int32.ofInt 0 < 0) && (Nat.ble ((Int32.ofInt 0).toNatClampNeg + (Int32.ofInt n).toNatClampNeg) (pm_len l) && Nat.ble ((Int32.ofInt 0).toNatClampNeg + (Int32.ofInt n).toNatClampNeg) (pm_len l'))))))))
      (cond (pm_cat8 r) (pm_fn (pc + 3) fun q => ih d (pm_set h (a2 - 16) (.inl (0, pm_cpy l l' (Int32.ofInt 0).toNatClampNeg (Int32.ofInt 0).toNatClampNeg (Int32.ofInt n).toNatClampNeg))) m q ls r) none) none
    | _, _ => none) = _
  rw [pw_rowI e1 ha, pw_cellI f1 ha2]
  dsimp only
  have en : (Int32.ofInt n).toNatClampNeg = n.toNat := pw_clamp h0 (by omega)
  have e0 : (Int32.ofInt 0).toNatClampNeg = 0 := rfl
  rw [en, e0, decide_eq_false (pw_neg h0 (by omega)), pm_len_eq, pm_len_eq]
  have hb : (Nat.beq 0 0 && (Nat.beq 0 0 && (Nat.ble 16 a && (!false && (!decide (Int32.ofInt 0 < 0) && (!decide (Int32.ofInt 0 < 0) && (Nat.ble (0 + n.toNat) l.length && Nat.ble (0 + n.toNat) l'.length))))))) = true := by
    rw [Nat.ble_eq_true_of_le (show 16 ≤ a by omega), Nat.ble_eq_true_of_le (show 0 + n.toNat ≤ l.length by omega), Nat.ble_eq_true_of_le (show 0 + n.toNat ≤ l'.length by omega)]
    rfl
  have ea : a2 - 16 = q := by omega
  rw [hb, cond_true, h8, cond_true, pm_fn_eq, ea, pm_set_eq]
  have ec : pm_cpy l l' 0 0 n.toNat = l.take n.toNat := by
    unfold pm_cpy
    rw [List.take_zero, List.drop_zero, List.nil_append, List.drop_of_length_le (by omega), List.append_nil]
  rw [ec]
end Pn
theorem cm_325 {X : List (Nat × List Value)} {d : Nat} {h : pm_H} {c : Nat} {l : List Value} {n : Int} (e1 : h[c]? = some (.inl (0, l))) (hl : l.length = 1000) (h0 : 0 ≤ n) (h1 : n ≤ 999) : pw X d h 325 0 [some (.ref (16 + c)), some (pw_i n), none] [] (fun h' v => h' = h ++ [.inl (0, l.take n.toNat)] ∧ v = .inl (some (.ref (16 + h.length)))) := by
  have E : pm_ent 325 = some (2, 3, 14, 3, pmc_325) := rfl
  have hc : c < h.length := (List.getElem?_eq_some_iff.mp e1).1
  refine pw_ld E (pc' := 1) (st' := [pw_i n]) rfl (fun _ => rfl) ?_
  refine pw_ld E (pc' := 2) (st' := [.ref (16 + c), pw_i n]) rfl (fun _ => rfl) ?_
  refine pw_alen E (pc' := 3) rfl (pw_rowI e1 rfl) rfl rfl ?_
  rw [hl]
  refine pw_if2 E (pc' := 14) rfl (by decide) (by omega) (by omega) (by decide) (by decide) ?_ ?_
  · intro _
    refine pw_ld E (pc' := 15) (st' := [pw_i n]) rfl (fun _ => rfl) ?_
    refine pw_newi E (pc' := 17) rfl rfl h0 (by omega) ?_
    have e2 : (h ++ [.inl (0, List.replicate n.toNat (.int 0))])[c]? = some (.inl (0, l)) := by rw [List.getElem?_append_left hc]; exact e1
    have e3 : (h ++ [.inl (0, List.replicate n.toNat (.int 0))])[h.length]? = some (.inl (0, List.replicate n.toNat (.int 0))) := by rw [List.getElem?_append_right (Nat.le_refl _), Nat.sub_self]; rfl
    generalize hg : h ++ [.inl (0, List.replicate n.toNat (Value.int 0))] = g at e2 e3 ⊢
    refine pw_astn E (pc' := 18) (ls' := [some (.ref (16 + c)), some (pw_i n), some (.ref (16 + h.length))]) rfl rfl rfl rfl ?_
    refine pw_ld E (pc' := 19) (st' := [.ref (16 + c)]) rfl (fun _ => rfl) ?_
    refine pw_ld E (pc' := 20) (st' := [pw_i 0, .ref (16 + c)]) rfl (fun _ => rfl) ?_
    refine pw_ld E (pc' := 21) (st' := [.ref (16 + h.length), pw_i 0, .ref (16 + c)]) rfl (fun _ => rfl) ?_
    refine pw_ld E (pc' := 22) (st' := [pw_i 0, .ref (16 + h.length), pw_i 0, .ref (16 + c)]) rfl (fun _ => rfl) ?_
    refine pw_ld E (pc' := 23) (st' := [.ref (16 + c), pw_i 0, .ref (16 + h.length), pw_i 0, .ref (16 + c)]) rfl (fun _ => rfl) ?_
    refine pw_alen E (pc' := 24) rfl (pw_rowI e2 rfl) rfl rfl ?_
    rw [hl]
    refine pw_ld E (pc' := 25) (st' := [pw_i n, pw_i (1000 : Nat), pw_i 0, .ref (16 + h.length), pw_i 0, .ref (16 + c)]) rfl (fun _ => rfl) ?_
    refine pw_min E rfl rfl (by decide) (by decide) (by omega) (by omega) rfl ?_
    rw [show min ((1000 : Nat) : Int) n = n by omega]
    refine pw_cpyN (q := h.length) E rfl rfl e2 e3 h0 (by omega) (by omega) List.length_replicate.symm rfl rfl rfl ?_
    refine pw_ld E (pc' := 32) (st' := [.ref (16 + h.length)]) rfl (fun _ => rfl) ?_
    refine pw_aret E rfl ⟨?_, rfl⟩
    rw [← hg, List.set_append_right _ _ (Nat.le_refl _), Nat.sub_self]
    rfl
  · intro hn
    exact absurd (show pw_c .ne n ((1000 : Nat) : Int) from (by show n ≠ ((1000 : Nat) : Int); omega)) hn
theorem pw_scq {h : pm_H} {q : Nat} {x : pm_C} (hq : h[q]? = some x) : pm_scv (16 + h.length) (.ref (16 + q)) = true := by
  have := (List.getElem?_eq_some_iff.mp hq).1
  exact Nat.blt_eq.mpr (by omega)
set_option maxHeartbeats 4000000 in
theorem cm_73t {X : List (Nat × List Value)} {d : Nat} {h : pm_H} (I : pw_I h) (c : Nat) (hc : pw_Sc c) (q0 : Nat) (q0l : List Value) (q0h : h[q0]? = some (.inl (0, q0l))) (q0n : q0l.length ≤ 1000) (q0i : pw_ints q0l) : pw X d h 73 12 [some (.ref (16 + c)), some (.ref 46), none] [.ref (16 + q0), .ref (16 + c)] (fun h' v => pw_I h' ∧ pw_E [c, c + 1, c + 2, c + 3, c + 4] h h' ∧ v = .inl none) := by
  have E : pm_ent 73 = some (2, 3, 7, 4, pmc_73) := rfl
  have E0 : pw_E [c, c + 1, c + 2, c + 3, c + 4] h h := pw_E.rf _ _
  refine pw_put0 I E (c := c) (k := 0) (pc' := 15) rfl rfl (pw_Sc_o hc) rfl ⟨q0, q0l, rfl, q0h, q0n, q0i⟩ (pw_scq q0h) rfl rfl rfl ?_
  intro h1I h1E
  generalize h1w : pw_w h c 0 (.ref (16 + q0)) = h1 at h1I h1E ⊢
  have h1F := E0.tr (h1E.wk (W' := [c, c + 1, c + 2, c + 3, c + 4]) (by first | rfl | simp))
  refine pw_ld E (pc' := 16) (st' := [.ref (16 + c)]) rfl (fun _ => rfl) ?_
  refine pw_ld E (pc' := 17) (st' := [.ref 46, .ref (16 + c)]) rfl (fun _ => rfl) ?_
  refine pw_getI h1I E (c := 30) (k := 1) (pc' := 20) rfl rfl rfl rfl rfl rfl (fun hf2a hf2b hf2c hf2d => ?_)
  refine pw_putI h1I E (c := c) (k := 1) (pc' := 23) rfl rfl (pw_Sc_o hc) rfl (by omega) (by omega) (by omega) (by omega) rfl rfl ?_
  intro h3I h3E
  generalize h3w : pw_w h1 c 1 (pw_i (pw_g h1 30 1)) = h3 at h3I h3E ⊢
  have h3F := h1F.tr (h3E.wk (W' := [c, c + 1, c + 2, c + 3, c + 4]) (by first | rfl | simp))
  refine pw_ld E (pc' := 24) (st' := [pw_i 0]) rfl (fun _ => rfl) ?_
  refine pw_istn E (pc' := 25) (ls' := [some (.ref (16 + c)), some (.ref 46), some (pw_i 0)]) rfl rfl rfl rfl ?_
  have L25 : ∀ (n25 : Nat) (k25_2 : Int) (h25 : pm_H), pw_I h25 → pw_E [c, c + 1, c + 2, c + 3, c + 4] h h25 → 0 ≤ k25_2 → k25_2 ≤ 4 → (4 - k25_2).toNat = n25 → pw X d h25 73 25 [some (.ref (16 + c)), some (.ref 46), some (pw_i k25_2)] [] (fun h' v => pw_I h' ∧ pw_E [c, c + 1, c + 2, c + 3, c + 4] h h' ∧ v = .inl none) := by
    intro n25
    induction n25 using Nat.strongRecOn with
    | ind n25 ih25 =>
      intro k25_2 h25 I25 E25 k25_2a k25_2b hm25
      refine pw_ld E (pc' := 26) (st' := [pw_i k25_2]) rfl (fun _ => rfl) ?_
      refine pw_ld E (pc' := 27) (st' := [pw_i 4, pw_i k25_2]) rfl (fun _ => rfl) ?_
      refine pw_if2 E (pc' := 84) rfl (by decide) (by omega) (by omega) (by decide) (by decide) ?_ ?_
      · intro hc4
        have hc4 : (4 : Int) ≤ k25_2 := hc4
        refine pw_vret E rfl ?_
        exact ⟨I25, E25, rfl⟩
      · intro hc5
        have hc5 : ¬ ((4 : Int) ≤ k25_2) := hc5
        refine pw_ld E (pc' := 31) (st' := [.ref (16 + c)]) rfl (fun _ => rfl) ?_
        refine pw_getR (b := 16 + (c + 1)) I25 E (c := c) (k := 2) (pc' := 34) rfl rfl (pw_Sc_o hc) rfl rfl rfl rfl ?_
        refine pw_ld E (pc' := 35) (st' := [pw_i k25_2, .ref (16 + (c + 1))]) rfl (fun _ => rfl) ?_
        refine pw_ld E (pc' := 36) (st' := [.ref 46, pw_i k25_2, .ref (16 + (c + 1))]) rfl (fun _ => rfl) ?_
        refine pw_getR (b := 47) I25 E (c := 30) (k := 2) (pc' := 39) rfl rfl rfl rfl rfl rfl rfl ?_
        refine pw_ld E (pc' := 40) (st' := [pw_i k25_2, .ref 47, pw_i k25_2, .ref (16 + (c + 1))]) rfl (fun _ => rfl) ?_
        refine pw_ald I25 E (c := 31) (pc' := 41) rfl rfl rfl (by decide) rfl (by decide) (by omega) (by omega) rfl (fun hf6a hf6b hf6c hf6d => ?_)
        refine pw_ast0 I25 E (c := c + 1) (pc' := 42) rfl rfl (pw_Sc_1 hc) (by decide) rfl (by decide) (by omega) (by omega) (pw_b1 (by omega) (by omega)) (by omega) (by omega) (by omega) (by omega) rfl ?_
        intro h7I h7E
        generalize h7w : pw_w h25 (c + 1) (k25_2.toNat) (pw_i (pw_g h25 31 (k25_2.toNat))) = h7 at h7I h7E ⊢
        have h7F := E25.tr (h7E.wk (W' := [c, c + 1, c + 2, c + 3, c + 4]) (by first | rfl | simp))
        refine pw_ld E (pc' := 43) (st' := [.ref (16 + c)]) rfl (fun _ => rfl) ?_
        refine pw_getR (b := 16 + (c + 2)) h7I E (c := c) (k := 3) (pc' := 46) rfl rfl (pw_Sc_o hc) rfl rfl rfl rfl ?_
        refine pw_ld E (pc' := 47) (st' := [pw_i k25_2, .ref (16 + (c + 2))]) rfl (fun _ => rfl) ?_
        refine pw_ld E (pc' := 48) (st' := [.ref 46, pw_i k25_2, .ref (16 + (c + 2))]) rfl (fun _ => rfl) ?_
        refine pw_getR (b := 48) h7I E (c := 30) (k := 3) (pc' := 51) rfl rfl rfl rfl rfl rfl rfl ?_
        refine pw_ld E (pc' := 52) (st' := [pw_i k25_2, .ref 48, pw_i k25_2, .ref (16 + (c + 2))]) rfl (fun _ => rfl) ?_
        refine pw_ald h7I E (c := 32) (pc' := 53) rfl rfl rfl (by decide) rfl (by decide) (by omega) (by omega) rfl (fun hf8a hf8b hf8c hf8d => ?_)
        refine pw_ast0 h7I E (c := c + 2) (pc' := 54) rfl rfl (pw_Sc_2 hc) (by decide) rfl (by decide) (by omega) (by omega) rfl (by omega) (by omega) (by omega) (by omega) rfl ?_
        intro h9I h9E
        generalize h9w : pw_w h7 (c + 2) (k25_2.toNat) (pw_i (pw_g h7 32 (k25_2.toNat))) = h9 at h9I h9E ⊢
        have h9F := h7F.tr (h9E.wk (W' := [c, c + 1, c + 2, c + 3, c + 4]) (by first | rfl | simp))
        refine pw_ld E (pc' := 55) (st' := [.ref (16 + c)]) rfl (fun _ => rfl) ?_
        refine pw_getR (b := 16 + (c + 3)) h9I E (c := c) (k := 4) (pc' := 58) rfl rfl (pw_Sc_o hc) rfl rfl rfl rfl ?_
        refine pw_ld E (pc' := 59) (st' := [pw_i k25_2, .ref (16 + (c + 3))]) rfl (fun _ => rfl) ?_
        refine pw_ld E (pc' := 60) (st' := [.ref 46, pw_i k25_2, .ref (16 + (c + 3))]) rfl (fun _ => rfl) ?_
        refine pw_getR (b := 49) h9I E (c := 30) (k := 4) (pc' := 63) rfl rfl rfl rfl rfl rfl rfl ?_
        refine pw_ld E (pc' := 64) (st' := [pw_i k25_2, .ref 49, pw_i k25_2, .ref (16 + (c + 3))]) rfl (fun _ => rfl) ?_
        refine pw_ald h9I E (c := 33) (pc' := 65) rfl rfl rfl (by decide) rfl (by decide) (by omega) (by omega) rfl (fun hf10a hf10b hf10c hf10d => ?_)
        refine pw_ast0 h9I E (c := c + 3) (pc' := 66) rfl rfl (pw_Sc_3 hc) (by decide) rfl (by decide) (by omega) (by omega) rfl (by omega) (by omega) (by omega) (by omega) rfl ?_
        intro h11I h11E
        generalize h11w : pw_w h9 (c + 3) (k25_2.toNat) (pw_i (pw_g h9 33 (k25_2.toNat))) = h11 at h11I h11E ⊢
        have h11F := h9F.tr (h11E.wk (W' := [c, c + 1, c + 2, c + 3, c + 4]) (by first | rfl | simp))
        refine pw_ld E (pc' := 67) (st' := [.ref (16 + c)]) rfl (fun _ => rfl) ?_
        refine pw_getR (b := 16 + (c + 4)) h11I E (c := c) (k := 5) (pc' := 70) rfl rfl (pw_Sc_o hc) rfl rfl rfl rfl ?_
        refine pw_ld E (pc' := 71) (st' := [pw_i k25_2, .ref (16 + (c + 4))]) rfl (fun _ => rfl) ?_
        refine pw_ld E (pc' := 72) (st' := [.ref 46, pw_i k25_2, .ref (16 + (c + 4))]) rfl (fun _ => rfl) ?_
        refine pw_getR (b := 50) h11I E (c := 30) (k := 5) (pc' := 75) rfl rfl rfl rfl rfl rfl rfl ?_
        refine pw_ld E (pc' := 76) (st' := [pw_i k25_2, .ref 50, pw_i k25_2, .ref (16 + (c + 4))]) rfl (fun _ => rfl) ?_
        refine pw_ald h11I E (c := 34) (pc' := 77) rfl rfl rfl (by decide) rfl (by decide) (by omega) (by omega) rfl (fun hf12a hf12b hf12c hf12d => ?_)
        refine pw_ast0 h11I E (c := c + 4) (pc' := 78) rfl rfl (pw_Sc_4 hc) (by decide) rfl (by decide) (by omega) (by omega) rfl (by omega) (by omega) (by omega) (by omega) rfl ?_
        intro h13I h13E
        generalize h13w : pw_w h11 (c + 4) (k25_2.toNat) (pw_i (pw_g h11 34 (k25_2.toNat))) = h13 at h13I h13E ⊢
        have h13F := h11F.tr (h13E.wk (W' := [c, c + 1, c + 2, c + 3, c + 4]) (by first | rfl | simp))
        refine pw_inc E (pc' := 81) (ls' := [some (.ref (16 + c)), some (.ref 46), some (pw_i (k25_2 + 1))]) rfl rfl rfl rfl ?_
        refine pw_goto E (pc' := 25) rfl (by decide) ?_
        exact ih25 _ (by omega) (k25_2 + 1) h13 h13I h13F (by omega) (by omega)  rfl
  exact L25 _ (0) h3 h3I h3F (by omega) (by omega)  rfl
theorem pw_G_push {W : List Nat} {h : pm_H} {l : List Value} (hl : l.length ≤ 1000) : pw_G W h (h ++ [.inl (0, l)]) := by
  refine ⟨⟨by simp, by simp, by rw [pm_slt_push]; omega, by rw [pm_slt_push]; show pm_slt h + l.length ≤ _; omega⟩, fun c hc _ => List.getElem?_append_left hc⟩
theorem cm_73 {X : List (Nat × List Value)} {d : Nat} {h : pm_H} (hd : 2 ≤ d) (I : pw_I h) (c : Nat) (hc : pw_Sc c) (hlen : pw_g h 30 1 ≤ 999) : pw X d h 73 0 [some (.ref (16 + c)), some (.ref 46), none] [] (fun h' v => pw_I h' ∧ pw_G [c, c + 1, c + 2, c + 3, c + 4] h h' ∧ v = .inl none) := by
  have E : pm_ent 73 = some (2, 3, 7, 4, pmc_73) := rfl
  refine pw_ld E (pc' := 1) (st' := [.ref (16 + c)]) rfl (fun _ => rfl) ?_
  refine pw_ld E (pc' := 2) (st' := [.ref 46, .ref (16 + c)]) rfl (fun _ => rfl) ?_
  refine pw_getR (b := 52) I E (c := 30) (k := 0) (pc' := 5) rfl rfl rfl rfl rfl rfl rfl ?_
  refine pw_ld E (pc' := 6) (st' := [.ref 46, .ref 52, .ref (16 + c)]) rfl (fun _ => rfl) ?_
  refine pw_getI I E (c := 30) (k := 1) (pc' := 9) rfl rfl rfl rfl rfl rfl (fun ha hb _ _ => ?_)
  obtain ⟨l, e1, e2, e3⟩ := pw_arr (c := 36) I rfl
  refine pw_call (m' := 325) (As := [.ref 52, pw_i (pw_g h 30 1)]) (rest := [.ref (16 + c)]) (ls'' := [some (.ref (16 + 36)), some (pw_i (pw_g h 30 1)), none]) (by omega) E rfl (fun _ => pw_iS rfl rfl rfl) (rfl : pm_ent 325 = some (2, 3, 14, 3, pmc_325)) rfl rfl (cm_325 e1 e2 ha hlen) ?_
  rintro h1 v1 ⟨rfl, rfl⟩
  refine ⟨_, rfl, ?_⟩
  have ht : (l.take (pw_g h 30 1).toNat).length ≤ 1000 := by rw [List.length_take]; omega
  refine pw_mono (cm_73t (pw_I_push rfl I) c hc h.length (l.take (pw_g h 30 1).toNat) (by rw [List.getElem?_append_right (Nat.le_refl _), Nat.sub_self]; rfl) ht (fun j v hv => ?_)) ?_
  · rw [List.getElem?_take] at hv
    split at hv
    · obtain ⟨a, rfl, -⟩ := e3 j v hv
      exact ⟨_, rfl⟩
    · cases hv
  · rintro h2 v2 ⟨I2, E2, rfl⟩
    exact ⟨I2, (pw_G_push ht).tE E2, rfl⟩
/-- the cells that law and writer of the class may write -/
def pw_WL : List Nat := [24, 26, 27, 28, 29, 30, 31, 32, 33, 34, 36] ++ (List.range 56).map (fun j => 39 + j)
end
section
/-! the text behind law and writer of the class (printed by wip/tool/mfeed.py) -/
set_option maxHeartbeats 4000000 in
theorem cm_143_26f {X : List (Nat × List Value)} {d : Nat} {h : pm_H} (hd : 7 ≤ d) (I : pw_I h) (hX : pw_Xk X) (hR : pw_Xr X) (c : Nat) (hc : pw_Sc c) : pw X d h 143 0 [some (.ref 16), some (.ref 42), some (.ref (16 + c)), none] [] (fun h' v => pw_I h' ∧ pw_G [24, 26, 27, 30, 31, 32, 33, 34, 36, c, c + 1, c + 2, c + 3, c + 4] h h' ∧ pw_g h' 24 1 = 0 ∧ ∃ a : Int, v = .inl (some (pw_i a)) ∧ (-2147483648) ≤ a ∧ a ≤ 2147483647) := by
  have E : pm_ent 143 = some (3, 4, 11, 0, pmc_143) := rfl
  refine pw_ld E (pc' := 1) (st' := [.ref 42]) rfl (fun _ => rfl) ?_
  refine pw_ld E (pc' := 2) (st' := [.ref 16, .ref 42]) rfl (fun _ => rfl) ?_
  refine pw_getR (b := 40) I E (c := 0) (k := 10) (pc' := 5) rfl rfl rfl rfl rfl rfl rfl ?_
  refine pw_ld E (pc' := 6) (st' := [.ref 16, .ref 40, .ref 42]) rfl (fun _ => rfl) ?_
  refine pw_getR (b := 46) I E (c := 0) (k := 13) (pc' := 9) rfl rfl rfl rfl rfl rfl rfl ?_
  obtain ⟨f1l, f1h, -⟩ := pw_obj (c := 26) I rfl
  refine pw_call (m' := 44) (As := [.ref 42, .ref 40, .ref 46]) (rest := []) (ls'' := [some (.ref 42), some (.ref 40), some (.ref 46), none, none]) (by omega) E rfl (fun _ => pw_iV rfl rfl rfl rfl (pw_cellI f1h rfl)) (rfl : pm_ent 44 = some (3, 5, 5, 0, pmc_44)) rfl rfl (cm_44_26 (by omega) I hX hR) ?_
  rintro h1 v1 ⟨I1, E1, a, rfl, ha, hb, hz⟩
  refine ⟨_, rfl, ?_⟩
  show pw X d h1 143 12 [some (.ref 16), some (.ref 42), some (.ref (16 + c)), none] [pw_i a] _
  refine pw_istn E (pc' := 13) (ls' := [some (.ref 16), some (.ref 42), some (.ref (16 + c)), some (pw_i a)]) rfl rfl rfl rfl ?_
  refine pw_ld E (pc' := 14) (st' := [.ref 16]) rfl (fun _ => rfl) ?_
  refine pw_getR (b := 40) I1 E (c := 0) (k := 10) (pc' := 17) rfl rfl rfl rfl rfl rfl rfl ?_
  obtain ⟨f2l, f2h, -⟩ := pw_obj (c := 24) I1 rfl
  refine pw_call (m' := 99) (As := [.ref 40]) (rest := []) (ls'' := [some (.ref 40)]) (by omega) E rfl (fun _ => pw_iV rfl rfl rfl rfl (pw_cellI f2h rfl)) (rfl : pm_ent 99 = some (1, 1, 9, 4, pmc_99)) rfl rfl (cm_99_f (by omega) I1) ?_
  rintro h2 v2 ⟨I2, E2, q2, rfl⟩
  refine ⟨_, rfl, ?_⟩
  show pw X d h2 143 20 [some (.ref 16), some (.ref 42), some (.ref (16 + c)), some (pw_i a)] [] _
  have e30 : pw_g h2 30 1 = pw_g h1 30 1 := pw_Eg (c := 30) I1 E2 rfl rfl 1
  have EE : pw_E [24, 26, 27, 30, 31, 32, 33, 34, 36, c, c + 1, c + 2, c + 3, c + 4] h h2 := (E1.wk (W' := [24, 26, 27, 30, 31, 32, 33, 34, 36, c, c + 1, c + 2, c + 3, c + 4]) (by simp)).tr (E2.wk (W' := [24, 26, 27, 30, 31, 32, 33, 34, 36, c, c + 1, c + 2, c + 3, c + 4]) (by simp))
  refine pw_ld E (pc' := 21) (st' := [pw_i a]) rfl (fun _ => rfl) ?_
  refine pw_if E (pc' := 32) rfl (by decide) ha hb ?_ ?_
  · intro _
    refine pw_ld E (pc' := 33) (st' := [pw_i a]) rfl (fun _ => rfl) ?_
    refine pw_iret E rfl ?_
    exact ⟨I2, EE.G, q2, a, rfl, ha, hb⟩
  · intro hn
    have hn : ¬ (a ≠ 0) := hn
    refine pw_ld E (pc' := 25) (st' := [.ref (16 + c)]) rfl (fun _ => rfl) ?_
    refine pw_ld E (pc' := 26) (st' := [.ref 16, .ref (16 + c)]) rfl (fun _ => rfl) ?_
    refine pw_getR (b := 46) I2 E (c := 0) (k := 13) (pc' := 29) rfl rfl rfl rfl rfl rfl rfl ?_
    obtain ⟨f3l, f3h, -⟩ := pw_obj (c := c) I2 (pw_Sc_o hc)
    refine pw_call (m' := 73) (As := [.ref (16 + c), .ref 46]) (rest := []) (ls'' := [some (.ref (16 + c)), some (.ref 46), none]) (by omega) E rfl (fun _ => pw_iV rfl rfl rfl rfl (pw_cellI f3h rfl)) (rfl : pm_ent 73 = some (2, 3, 7, 4, pmc_73)) rfl rfl (cm_73 (by omega) I2 c hc (by omega)) ?_
    rintro h3 v3 ⟨I3, G3, rfl⟩
    refine ⟨_, rfl, ?_⟩
    show pw X d h3 143 32 [some (.ref 16), some (.ref 42), some (.ref (16 + c)), some (pw_i a)] [] _
    refine pw_ld E (pc' := 33) (st' := [pw_i a]) rfl (fun _ => rfl) ?_
    refine pw_iret E rfl ?_
    exact ⟨I3, EE.tG (G3.wk (W' := [24, 26, 27, 30, 31, 32, 33, 34, 36, c, c + 1, c + 2, c + 3, c + 4]) (by simp)), (congrArg pw_iv (pw_Gg (c := 24) I2 G3 rfl (by rcases hc with rfl | rfl | rfl | rfl | rfl | rfl | rfl | rfl <;> decide) 1)).trans q2, a, rfl, ha, hb⟩
set_option maxHeartbeats 4000000 in
theorem cm_141_f {X : List (Nat × List Value)} {d : Nat} {h : pm_H} (hd : 8 ≤ d) (I : pw_I h) (hX : pw_Xk X) (hR : pw_Xr X) (l : Int) (hl1 : (-2147483648) ≤ l) (hl2 : l ≤ 2147483647) : pw X d h 141 0 [some (.ref 16), some (pw_i l)] [] (fun h' v => pw_I h' ∧ pw_G pw_WL h h' ∧ pw_g h' 24 1 = 0 ∧ ∃ a : Int, v = .inl (some (pw_i a)) ∧ (-2147483648) ≤ a ∧ a ≤ 2147483647) := by
  have E : pm_ent 141 = some (2, 2, 11, 0, pmc_141) := rfl
  refine pw_ld E (pc' := 1) (st' := [pw_i l]) rfl (fun _ => rfl) ?_
  refine pw_call (m' := 142) (As := [pw_i l]) (rest := []) (ls'' := [some (pw_i l)]) (by omega) E rfl (fun _ => pw_iS rfl rfl rfl) (rfl : pm_ent 142 = some (1, 1, 11, 1, pmc_142)) rfl rfl (cm_142 (by omega) I (l) (by omega) (by omega)) ?_
  rintro u v ⟨rfl, x, rfl, hxa, hxb, hxr⟩
  refine ⟨_, rfl, ?_⟩
  show pw X d h 141 4 [some (.ref 16), some (pw_i l)] [pw_i x] _
  refine pw_if E (pc' := 16) rfl (by decide) (by omega) (by omega) ?_ ?_
  · intro hn
    have hn : x ≠ 0 := hn
    refine pw_ld E (pc' := 17) (st' := [.ref 16]) rfl (fun _ => rfl) ?_
    refine pw_ld E (pc' := 18) (st' := [.ref 16, .ref 16]) rfl (fun _ => rfl) ?_
    refine pw_getR (b := 42) I E (c := 0) (k := 11) (pc' := 21) rfl rfl rfl rfl rfl rfl rfl ?_
    refine pw_ld E (pc' := 22) (st' := [.ref 16, .ref 42, .ref 16]) rfl (fun _ => rfl) ?_
    refine pw_getR (b := 53) I E (c := 0) (k := 14) (pc' := 25) rfl rfl rfl rfl rfl rfl rfl ?_
    refine pw_ld E (pc' := 26) (st' := [pw_i l, .ref 53, .ref 42, .ref 16]) rfl (fun _ => rfl) ?_
    obtain ⟨c, hc, hcl⟩ : ∃ c : Nat, pw_Sc c ∧ (((55 : Int) + 14 * ((l.toNat : Nat) : Int)).toNat = 16 + c) := by
      rcases (by omega : l = 0 ∨ l = 1 ∨ l = 2 ∨ l = 3) with rfl | rfl | rfl | rfl
      · exact ⟨39, by unfold pw_Sc; omega, rfl⟩
      · exact ⟨53, by unfold pw_Sc; omega, rfl⟩
      · exact ⟨67, by unfold pw_Sc; omega, rfl⟩
      · exact ⟨81, by unfold pw_Sc; omega, rfl⟩
    refine pw_aald (b := 16 + c) I E (c := 37) (pc' := 27) rfl rfl (by decide) rfl (by decide) (by omega) (by omega) hcl rfl ?_
    obtain ⟨f1l, f1h, -⟩ := pw_obj (c := 0) I rfl
    refine pw_call (m' := 143) (As := [.ref 16, .ref 42, .ref (16 + c)]) (rest := []) (ls'' := [some (.ref 16), some (.ref 42), some (.ref (16 + c)), none]) (by omega) E rfl (fun _ => pw_iV rfl rfl rfl rfl (pw_cellI f1h rfl)) (rfl : pm_ent 143 = some (3, 4, 11, 0, pmc_143)) rfl rfl (cm_143_26f (by omega) I hX hR c hc) ?_
    rintro h1 v1 ⟨I1, G1, q1, a, rfl, ha, hb⟩
    refine ⟨_, rfl, ?_⟩
    show pw X d h1 141 30 [some (.ref 16), some (pw_i l)] [pw_i a] _
    refine pw_iret E rfl ?_
    refine ⟨I1, G1.wk ?_, q1, a, rfl, ha, hb⟩
    rcases hc with rfl | rfl | rfl | rfl | rfl | rfl | rfl | rfl <;> decide
  · intro hn
    refine pw_ld E (pc' := 8) (st' := [.ref 16]) rfl (fun _ => rfl) ?_
    refine pw_getR (b := 40) I E (c := 0) (k := 10) (pc' := 11) rfl rfl rfl rfl rfl rfl rfl ?_
    obtain ⟨f2l, f2h, -⟩ := pw_obj (c := 24) I rfl
    refine pw_call (m' := 99) (As := [.ref 40]) (rest := []) (ls'' := [some (.ref 40)]) (by omega) E rfl (fun _ => pw_iV rfl rfl rfl rfl (pw_cellI f2h rfl)) (rfl : pm_ent 99 = some (1, 1, 9, 4, pmc_99)) rfl rfl (cm_99_f (by omega) I) ?_
    rintro h2 v2 ⟨I2, E2, q2, rfl⟩
    refine ⟨_, rfl, ?_⟩
    show pw X d h2 141 14 [some (.ref 16), some (pw_i l)] [] _
    refine pw_ld E (pc' := 15) (st' := [pw_i (-1)]) rfl (fun _ => rfl) ?_
    refine pw_iret E rfl ?_
    exact ⟨I2, (E2.wk (W' := pw_WL) (by decide)).G, q2, -1, rfl, by decide, by decide⟩
end
section
/-! law and writer of the class, exactly -/
set_option maxHeartbeats 4000000 in
theorem cm_143_28x {X : List (Nat × List Value)} {d : Nat} {h : pm_H} (hd : 7 ≤ d) (I : pw_I h) (hX : pw_Xk X) (hR : pw_Xr X) (hS : pw_Xs X) (hF : pw_Xf X) (L : List pt_tok) (hL : pt_sg (pw_g h 25) (pw_g h 24 1).toNat 0 L (pw_g h 24 1).toNat) (c : Nat) (hc : pw_Sc c) : pw X d h 143 0 [some (.ref 16), some (.ref 44), some (.ref (16 + c)), none] [] (fun h' v => pw_I h' ∧ pw_G [24, 28, 29, 30, 31, 32, 33, 34, 36, c, c + 1, c + 2, c + 3, c + 4] h h' ∧ pw_g h' 24 1 = 0 ∧ ∃ a : Int, v = .inl (some (pw_i a)) ∧ (-2147483648) ≤ a ∧ a ≤ 2147483647 ∧ a = (pt_TX 1 L (pw_g h 24 1).toNat).1) := by
  have E : pm_ent 143 = some (3, 4, 11, 0, pmc_143) := rfl
  refine pw_ld E (pc' := 1) (st' := [.ref 44]) rfl (fun _ => rfl) ?_
  refine pw_ld E (pc' := 2) (st' := [.ref 16, .ref 44]) rfl (fun _ => rfl) ?_
  refine pw_getR (b := 40) I E (c := 0) (k := 10) (pc' := 5) rfl rfl rfl rfl rfl rfl rfl ?_
  refine pw_ld E (pc' := 6) (st' := [.ref 16, .ref 40, .ref 44]) rfl (fun _ => rfl) ?_
  refine pw_getR (b := 46) I E (c := 0) (k := 13) (pc' := 9) rfl rfl rfl rfl rfl rfl rfl ?_
  obtain ⟨f1l, f1h, -⟩ := pw_obj (c := 28) I rfl
  refine pw_call (m' := 44) (As := [.ref 44, .ref 40, .ref 46]) (rest := []) (ls'' := [some (.ref 44), some (.ref 40), some (.ref 46), none, none]) (by omega) E rfl (fun _ => pw_iV rfl rfl rfl rfl (pw_cellI f1h rfl)) (rfl : pm_ent 44 = some (3, 5, 5, 0, pmc_44)) rfl rfl (cm_44_x28 (by omega) I hX L hR hS hF hL) ?_
  rintro h1 v1 ⟨I1, E1, a, rfl, ha, hb, hw⟩
  have hz : a ≠ 0 ∨ pw_g h1 30 1 ≤ 999 := hw.elim (fun q => Or.inl q.1) (fun ⟨_, _, _, _, _, _, q⟩ => Or.inr q)
  have hx : a = (pt_TX 1 L (pw_g h 24 1).toNat).1 := hw.elim (fun q => q.2.symm) (fun ⟨q0, _, _, _, q, _⟩ => by rw [q]; exact q0)
  refine ⟨_, rfl, ?_⟩
  show pw X d h1 143 12 [some (.ref 16), some (.ref 44), some (.ref (16 + c)), none] [pw_i a] _
  refine pw_istn E (pc' := 13) (ls' := [some (.ref 16), some (.ref 44), some (.ref (16 + c)), some (pw_i a)]) rfl rfl rfl rfl ?_
  refine pw_ld E (pc' := 14) (st' := [.ref 16]) rfl (fun _ => rfl) ?_
  refine pw_getR (b := 40) I1 E (c := 0) (k := 10) (pc' := 17) rfl rfl rfl rfl rfl rfl rfl ?_
  obtain ⟨f2l, f2h, -⟩ := pw_obj (c := 24) I1 rfl
  refine pw_call (m' := 99) (As := [.ref 40]) (rest := []) (ls'' := [some (.ref 40)]) (by omega) E rfl (fun _ => pw_iV rfl rfl rfl rfl (pw_cellI f2h rfl)) (rfl : pm_ent 99 = some (1, 1, 9, 4, pmc_99)) rfl rfl (cm_99_f (by omega) I1) ?_
  rintro h2 v2 ⟨I2, E2, q2, rfl⟩
  refine ⟨_, rfl, ?_⟩
  show pw X d h2 143 20 [some (.ref 16), some (.ref 44), some (.ref (16 + c)), some (pw_i a)] [] _
  have e30 : pw_g h2 30 1 = pw_g h1 30 1 := pw_Eg (c := 30) I1 E2 rfl rfl 1
  have EE : pw_E [24, 28, 29, 30, 31, 32, 33, 34, 36, c, c + 1, c + 2, c + 3, c + 4] h h2 := (E1.wk (W' := [24, 28, 29, 30, 31, 32, 33, 34, 36, c, c + 1, c + 2, c + 3, c + 4]) (by simp)).tr (E2.wk (W' := [24, 28, 29, 30, 31, 32, 33, 34, 36, c, c + 1, c + 2, c + 3, c + 4]) (by simp))
  refine pw_ld E (pc' := 21) (st' := [pw_i a]) rfl (fun _ => rfl) ?_
  refine pw_if E (pc' := 32) rfl (by decide) ha hb ?_ ?_
  · intro _
    refine pw_ld E (pc' := 33) (st' := [pw_i a]) rfl (fun _ => rfl) ?_
    refine pw_iret E rfl ?_
    exact ⟨I2, EE.G, q2, a, rfl, ha, hb, hx⟩
  · intro hn
    have hn : ¬ (a ≠ 0) := hn
    refine pw_ld E (pc' := 25) (st' := [.ref (16 + c)]) rfl (fun _ => rfl) ?_
    refine pw_ld E (pc' := 26) (st' := [.ref 16, .ref (16 + c)]) rfl (fun _ => rfl) ?_
    refine pw_getR (b := 46) I2 E (c := 0) (k := 13) (pc' := 29) rfl rfl rfl rfl rfl rfl rfl ?_
    obtain ⟨f3l, f3h, -⟩ := pw_obj (c := c) I2 (pw_Sc_o hc)
    refine pw_call (m' := 73) (As := [.ref (16 + c), .ref 46]) (rest := []) (ls'' := [some (.ref (16 + c)), some (.ref 46), none]) (by omega) E rfl (fun _ => pw_iV rfl rfl rfl rfl (pw_cellI f3h rfl)) (rfl : pm_ent 73 = some (2, 3, 7, 4, pmc_73)) rfl rfl (cm_73 (by omega) I2 c hc (by omega)) ?_
    rintro h3 v3 ⟨I3, G3, rfl⟩
    refine ⟨_, rfl, ?_⟩
    show pw X d h3 143 32 [some (.ref 16), some (.ref 44), some (.ref (16 + c)), some (pw_i a)] [] _
    refine pw_ld E (pc' := 33) (st' := [pw_i a]) rfl (fun _ => rfl) ?_
    refine pw_iret E rfl ?_
    exact ⟨I3, EE.tG (G3.wk (W' := [24, 28, 29, 30, 31, 32, 33, 34, 36, c, c + 1, c + 2, c + 3, c + 4]) (by simp)), (congrArg pw_iv (pw_Gg (c := 24) I2 G3 rfl (by rcases hc with rfl | rfl | rfl | rfl | rfl | rfl | rfl | rfl <;> decide) 1)).trans q2, a, rfl, ha, hb, hx⟩
set_option maxHeartbeats 4000000 in
theorem cm_153_x {X : List (Nat × List Value)} {d : Nat} {h : pm_H} (hd : 8 ≤ d) (I : pw_I h) (hX : pw_Xk X) (hR : pw_Xr X) (hS : pw_Xs X) (hF : pw_Xf X) (l : Int) (hl1 : (-2147483648) ≤ l) (hl2 : l ≤ 2147483647) : pw X d h 153 0 [some (.ref 16), some (pw_i l)] [] (fun h' v => pw_I h' ∧ pw_G pw_WL h h' ∧ pw_g h' 24 1 = 0 ∧ ∃ a : Int, v = .inl (some (pw_i a)) ∧ (-2147483648) ≤ a ∧ a ≤ 2147483647 ∧ ((¬ (0 ≤ l ∧ l ≤ 3) → a = -1) ∧ (0 ≤ l → l ≤ 3 → ∀ L : List pt_tok, pt_sg (pw_g h 25) (pw_g h 24 1).toNat 0 L (pw_g h 24 1).toNat → a = (pt_TX 1 L (pw_g h 24 1).toNat).1))) := by
  obtain ⟨L, hL⟩ := pt_sg_ex (pw_g h 25) (pw_g h 24 1).toNat
  have E : pm_ent 153 = some (2, 2, 11, 0, pmc_153) := rfl
  refine pw_ld E (pc' := 1) (st' := [pw_i l]) rfl (fun _ => rfl) ?_
  refine pw_call (m' := 142) (As := [pw_i l]) (rest := []) (ls'' := [some (pw_i l)]) (by omega) E rfl (fun _ => pw_iS rfl rfl rfl) (rfl : pm_ent 142 = some (1, 1, 11, 1, pmc_142)) rfl rfl (cm_142 (by omega) I (l) (by omega) (by omega)) ?_
  rintro u v ⟨rfl, x, rfl, hxa, hxb, hxr⟩
  refine ⟨_, rfl, ?_⟩
  show pw X d h 153 4 [some (.ref 16), some (pw_i l)] [pw_i x] _
  refine pw_if E (pc' := 16) rfl (by decide) (by omega) (by omega) ?_ ?_
  · intro hn
    have hn : x ≠ 0 := hn
    refine pw_ld E (pc' := 17) (st' := [.ref 16]) rfl (fun _ => rfl) ?_
    refine pw_ld E (pc' := 18) (st' := [.ref 16, .ref 16]) rfl (fun _ => rfl) ?_
    refine pw_getR (b := 44) I E (c := 0) (k := 12) (pc' := 21) rfl rfl rfl rfl rfl rfl rfl ?_
    refine pw_ld E (pc' := 22) (st' := [.ref 16, .ref 44, .ref 16]) rfl (fun _ => rfl) ?_
    refine pw_getR (b := 54) I E (c := 0) (k := 15) (pc' := 25) rfl rfl rfl rfl rfl rfl rfl ?_
    refine pw_ld E (pc' := 26) (st' := [pw_i l, .ref 54, .ref 44, .ref 16]) rfl (fun _ => rfl) ?_
    obtain ⟨c, hc, hcl⟩ : ∃ c : Nat, pw_Sc c ∧ (((62 : Int) + 14 * ((l.toNat : Nat) : Int)).toNat = 16 + c) := by
      rcases (by omega : l = 0 ∨ l = 1 ∨ l = 2 ∨ l = 3) with rfl | rfl | rfl | rfl
      · exact ⟨46, by unfold pw_Sc; omega, rfl⟩
      · exact ⟨60, by unfold pw_Sc; omega, rfl⟩
      · exact ⟨74, by unfold pw_Sc; omega, rfl⟩
      · exact ⟨88, by unfold pw_Sc; omega, rfl⟩
    refine pw_aald (b := 16 + c) I E (c := 38) (pc' := 27) rfl rfl (by decide) rfl (by decide) (by omega) (by omega) hcl rfl ?_
    obtain ⟨f1l, f1h, -⟩ := pw_obj (c := 0) I rfl
    refine pw_call (m' := 143) (As := [.ref 16, .ref 44, .ref (16 + c)]) (rest := []) (ls'' := [some (.ref 16), some (.ref 44), some (.ref (16 + c)), none]) (by omega) E rfl (fun _ => pw_iV rfl rfl rfl rfl (pw_cellI f1h rfl)) (rfl : pm_ent 143 = some (3, 4, 11, 0, pmc_143)) rfl rfl (cm_143_28x (by omega) I hX hR hS hF L hL c hc) ?_
    rintro h1 v1 ⟨I1, G1, q1, a, rfl, ha, hb, hx⟩
    refine ⟨_, rfl, ?_⟩
    show pw X d h1 153 30 [some (.ref 16), some (pw_i l)] [pw_i a] _
    refine pw_iret E rfl ?_
    refine ⟨I1, G1.wk ?_, q1, a, rfl, ha, hb, fun q => absurd ⟨by omega, by omega⟩ q, fun _ _ L2 hL2 => by rw [pt_sg.u hL2 hL]; exact hx⟩
    rcases hc with rfl | rfl | rfl | rfl | rfl | rfl | rfl | rfl <;> decide
  · intro hn
    have hn : ¬ (x ≠ 0) := hn
    refine pw_ld E (pc' := 8) (st' := [.ref 16]) rfl (fun _ => rfl) ?_
    refine pw_getR (b := 40) I E (c := 0) (k := 10) (pc' := 11) rfl rfl rfl rfl rfl rfl rfl ?_
    obtain ⟨f2l, f2h, -⟩ := pw_obj (c := 24) I rfl
    refine pw_call (m' := 99) (As := [.ref 40]) (rest := []) (ls'' := [some (.ref 40)]) (by omega) E rfl (fun _ => pw_iV rfl rfl rfl rfl (pw_cellI f2h rfl)) (rfl : pm_ent 99 = some (1, 1, 9, 4, pmc_99)) rfl rfl (cm_99_f (by omega) I) ?_
    rintro h2 v2 ⟨I2, E2, q2, rfl⟩
    refine ⟨_, rfl, ?_⟩
    show pw X d h2 153 14 [some (.ref 16), some (pw_i l)] [] _
    refine pw_ld E (pc' := 15) (st' := [pw_i (-1)]) rfl (fun _ => rfl) ?_
    refine pw_iret E rfl ?_
    exact ⟨I2, (E2.wk (W' := pw_WL) (by decide)).G, q2, -1, rfl, by decide, by decide, fun _ => rfl, fun q1 q2 => by exfalso; omega⟩
end
section
/-! the law's own frame (printed by wip/tool/mlawrules.py) -/
def pwl (X : List (Nat × List Value)) (K : Nat) (h : pm_H) (pc : Nat) (ls : pm_L) (st : List Value) (Q : pm_H → (Option Value ⊕ Unit) → Prop) : Prop :=
  ∃ k N0 o, k ≤ K ∧ Q o.1 o.2 ∧ ∀ N, N0 ≤ N → pm_xk X N k 50 h 309 pc ls st = some o
theorem pwl_mono {X : List (Nat × List Value)} {K K' : Nat} {h : pm_H} {pc : Nat} {ls : pm_L} {st : List Value} {Q : pm_H → (Option Value ⊕ Unit) → Prop} (hk : K ≤ K') (H : pwl X K h pc ls st Q) : pwl X K' h pc ls st Q := by
  obtain ⟨k, N0, o, h1, h2, h3⟩ := H
  exact ⟨k, N0, o, Nat.le_trans h1 hk, h2, h3⟩
theorem pm_xk_at {X : List (Nat × List Value)} {N k d : Nat} {h : pm_H} {m pc len na nl own rt : Nat} {C : pm_T (Instr × Nat)} {ls : pm_L} {st : List Value} {i : Instr} (he : pm_ent m = some (na, nl, own, rt, C)) (hq : pm_get C pc = some (i, len)) : pm_xk X N (k + 1) d h m pc ls st = pm_dsp X i (pm_ik X N (pm_xk X N k)) d h m own pc len ls st := by
  show pm_F X (pm_ik X N (pm_xk X N k)) d h m pc ls st = _
  unfold pm_F
  rw [he]
  show (match pm_get C pc with
    | none => none
    | some q => pm_dsp X q.1 (pm_ik X N (pm_xk X N k)) d h m own pc q.2 ls st) = _
  rw [hq]
theorem pm_ik_309 {X : List (Nat × List Value)} {N : Nat} {K : pm_I} {d : Nat} {h : pm_H} {pc : Nat} {ls : pm_L} {st : List Value} : pm_ik X N K d h 309 pc ls st = K d h 309 pc ls st := by
  unfold pm_ik
  rw [Nat.beq_refl]
  rfl
/-- an int of the script -/
def pw_s (xs : List Int32) (j : Int) : Int := (xs.getD j.toNat 0).toInt
theorem pw_s_r (xs : List Int32) (j : Int) : -2147483648 ≤ pw_s xs j ∧ pw_s xs j ≤ 2147483647 := pw_i32r _
section Pl
variable {X : List (Nat × List Value)} {K : Nat} {h h' : pm_H} {pc pc' len na nl own rt : Nat} {C : pm_T (Instr × Nat)} {ls ls' : pm_L} {st st' r : List Value} {Q : pm_H → (Option Value ⊕ Unit) → Prop} {i : Instr}
theorem pwl_go (he : pm_ent 309 = some (na, nl, own, rt, C)) (hq : pm_get C pc = some (i, len)) (hs : ∀ ih : pm_I, pm_dsp X i ih 50 h 309 own pc len ls st = ih 50 h' 309 pc' ls' st') (H : pwl X K h' pc' ls' st' Q) : pwl X (K + 1) h pc ls st Q := by
  obtain ⟨k, N0, o, hk, hQ, hn⟩ := H
  refine ⟨k + 1, N0, o, by omega, hQ, fun n hn' => ?_⟩
  rw [pm_xk_at he hq]
  exact (hs _).trans (pm_ik_309.trans (hn n hn'))
theorem pwl_end {v : Option Value ⊕ Unit} (he : pm_ent 309 = some (na, nl, own, rt, C)) (hq : pm_get C pc = some (i, len)) (hs : ∀ ih : pm_I, pm_dsp X i ih 50 h 309 own pc len ls st = some (h, v)) (H : Q h v) : pwl X (K + 1) h pc ls st Q := by
  refine ⟨1, 0, (h, v), by omega, H, fun n hn' => ?_⟩
  rw [pm_xk_at he hq]
  exact hs _
theorem pwl_ld (he : pm_ent 309 = some (na, nl, own, rt, C)) (hq : pm_get C pc = some (i, len)) (hs : ∀ ih : pm_I, pm_dsp X i ih 50 h 309 own pc len ls st = ih 50 h 309 pc' ls st') (H : pwl X K h pc' ls st' Q) : pwl X (K + 1) h pc ls st Q := pwl_go he hq hs H
theorem pwl_nmx {x : Int32} (H : ∀ b : Int, -2147483648 ≤ b → b ≤ 2147483647 → pwl X K h pc ls (pw_i b :: r) Q) : pwl X K h pc ls (.int x :: r) Q := by
  obtain ⟨b, h1, h2, h3⟩ := pw_any x
  rw [h3]
  exact H b h1 h2
theorem pwl_bip {n : Int} (he : pm_ent 309 = some (na, nl, own, rt, C)) (hq : pm_get C pc = some (.bipush n, len)) (hc : pc + len = pc') (hv : (Int8.ofInt n).toInt32 = Int32.ofInt n) (H : pwl X K h pc' ls (pw_i n :: st) Q) : pwl X (K + 1) h pc ls st Q := by
  subst hc
  refine pwl_ld he hq (st' := .int (Int8.ofInt n).toInt32 :: st) (pc' := pc + len) (fun ih => ?_) (by rw [hv]; exact H)
  exact pm_fn_eq (pc + len) (fun q => ih 50 h 309 q ls (.int (Int8.ofInt n).toInt32 :: st))
theorem pwl_ist {k : Nat} {a : Int} (he : pm_ent 309 = some (na, nl, own, rt, C)) (hq : pm_get C pc = some (.istore k, len)) (hk : Nat.blt k (pm_len ls) = true) (hp : pm_put1 ls k (pw_i a) = ls') (hc : pc + len = pc') (H : pwl X K h pc' ls' r Q) : pwl X (K + 1) h pc ls (pw_i a :: r) Q := by
  subst hc; subst hp
  refine pwl_go he hq (fun ih => ?_) H
  show cond (Nat.blt k (pm_len ls)) (pm_fi (Int32.ofInt a) fun y => pm_fn (pc + len) fun q => ih 50 h 309 q (pm_put1 ls k (.int y)) r) none = _
  rw [hk, cond_true, pm_fi_eq, pm_fn_eq]
  rfl
theorem pwl_lst {k : Nat} {w : Int64} (he : pm_ent 309 = some (na, nl, own, rt, C)) (hq : pm_get C pc = some (.lstore k, len)) (hk : Nat.blt (k + 1) (pm_len ls) = true) (hp : pm_put2 ls k (.long w) = ls') (hc : pc + len = pc') (H : pwl X K h pc' ls' r Q) : pwl X (K + 1) h pc ls (.long w :: r) Q := by
  subst hc; subst hp
  refine pwl_go he hq (fun ih => ?_) H
  show cond (Nat.blt (k + 1) (pm_len ls)) (pm_fl w fun y => pm_fn (pc + len) fun q => ih 50 h 309 q (pm_put2 ls k (.long y)) r) none = _
  rw [hk, cond_true, pm_fl_eq, pm_fn_eq]
theorem pwl_astn {k : Fin 4} {a : Nat} (he : pm_ent 309 = some (na, nl, own, rt, C)) (hq : pm_get C pc = some (.astore_n k, len)) (hk : Nat.blt k.val (pm_len ls) = true) (hp : pm_put1 ls k.val (.ref a) = ls') (hc : pc + len = pc') (H : pwl X K h pc' ls' r Q) : pwl X (K + 1) h pc ls (.ref a :: r) Q := by
  subst hc; subst hp
  refine pwl_go he hq (fun ih => ?_) H
  show cond (Nat.blt k.val (pm_len ls)) (pm_fn (pc + len) fun q => ih 50 h 309 q (pm_put1 ls k.val (.ref a)) r) none = _
  rw [hk, cond_true, pm_fn_eq]
theorem pwl_inc {k : Nat} {n a : Int} (he : pm_ent 309 = some (na, nl, own, rt, C)) (hq : pm_get C pc = some (.iinc k n, 3)) (hl : pm_nth ls k = some (some (pw_i a))) (hp : pm_put1 ls k (pw_i (a + n)) = ls') (hc : pc + 3 = pc') (H : pwl X K h pc' ls' st Q) : pwl X (K + 1) h pc ls st Q := by
  subst hc; subst hp
  refine pwl_go he hq (fun ih => ?_) H
  show pm_lift (pm_sInc k n) ih 50 h 309 own pc 3 ls st = _
  unfold pm_lift pm_sInc
  rw [hl]
  show cond (Nat.beq 3 3) (pm_fi (Int32.ofInt a + Int32.ofInt n) fun y => pm_fn (pc + 3) fun q => ih 50 h 309 q (pm_put1 ls k (.int y)) st) none = _
  rw [Nat.beq_refl, cond_true, pm_fi_eq, pm_fn_eq, ← Int32.ofInt_add]
  rfl
theorem pwl_add {a b : Int} (he : pm_ent 309 = some (na, nl, own, rt, C)) (hq : pm_get C pc = some (.iadd, len)) (hc : pc + len = pc') (H : pwl X K h pc' ls (pw_i (a + b) :: r) Q) : pwl X (K + 1) h pc ls (pw_i b :: pw_i a :: r) Q := by
  subst hc
  refine pwl_ld he hq (st' := pw_i (a + b) :: r) (pc' := pc + len) (fun ih => ?_) H
  unfold pw_i
  rw [Int32.ofInt_add]
  exact pm_fn_eq (pc + len) (fun q => ih 50 h 309 q ls (.int (Int32.ofInt a + Int32.ofInt b) :: r))
theorem pwl_sub {a b : Int} (he : pm_ent 309 = some (na, nl, own, rt, C)) (hq : pm_get C pc = some (.isub, len)) (hc : pc + len = pc') (H : pwl X K h pc' ls (pw_i (a - b) :: r) Q) : pwl X (K + 1) h pc ls (pw_i b :: pw_i a :: r) Q := by
  subst hc
  refine pwl_ld he hq (st' := pw_i (a - b) :: r) (pc' := pc + len) (fun ih => ?_) H
  unfold pw_i
  rw [Int32.ofInt_sub]
  exact pm_fn_eq (pc + len) (fun q => ih 50 h 309 q ls (.int (Int32.ofInt a - Int32.ofInt b) :: r))
theorem pwl_ii {f : Int32 → Int32 → Int32} {a b : Int} (he : pm_ent 309 = some (na, nl, own, rt, C)) (hq : pm_get C pc = some (i, len)) (hs : ∀ ih : pm_I, pm_dsp X i ih 50 h 309 own pc len ls (pw_i b :: pw_i a :: r) = ih 50 h 309 pc' ls (.int (f (Int32.ofInt a) (Int32.ofInt b)) :: r)) (H : ∀ c : Int, -2147483648 ≤ c → c ≤ 2147483647 → pwl X K h pc' ls (pw_i c :: r) Q) : pwl X (K + 1) h pc ls (pw_i b :: pw_i a :: r) Q := pwl_ld he hq hs (pwl_nmx H)
theorem pwl_goto {off : Int} (he : pm_ent 309 = some (na, nl, own, rt, C)) (hq : pm_get C pc = some (.goto off, len)) (ht : (pc : Int) + off = (pc' : Int)) (H : pwl X K h pc' ls st Q) : pwl X (K + 1) h pc ls st Q := by
  refine pwl_ld he hq (pc' := pc') (st' := st) (fun ih => ?_) H
  show pm_to ((pc : Int) + off) (fun t => ih 50 h 309 t ls st) = _
  rw [ht]
  exact pm_fn_eq pc' (fun t => ih 50 h 309 t ls st)
theorem pwl_if {c : ClassFile.Cond} {off a : Int} (he : pm_ent 309 = some (na, nl, own, rt, C)) (hq : pm_get C pc = some (.ifCond c off, len)) (ht : (pc : Int) + off = (pc' : Int)) (h1 : -2147483648 ≤ a) (h2 : a ≤ 2147483647) (HT : pw_c c a 0 → pwl X K h pc' ls r Q) (HF : ¬ pw_c c a 0 → pwl X K h (pc + 3) ls r Q) : pwl X (K + 1) h pc ls (pw_i a :: r) Q := by
  have key : ∀ ih : pm_I, pm_dsp X (.ifCond c off) ih 50 h 309 own pc len ls (pw_i a :: r) = cond (pm_cnd c (Int32.ofInt a) (Int32.ofInt 0)) (ih 50 h 309 pc' ls r) (ih 50 h 309 (pc + 3) ls r) := by
    intro ih
    show pm_to ((pc : Int) + off) (fun t => cond (pm_cnd c (Int32.ofInt a) 0) (ih 50 h 309 t ls r) (pm_fn (pc + 3) fun q => ih 50 h 309 q ls r)) = _
    rw [ht]
    rw [pm_fn_eq (pc + 3)]
    exact pm_fn_eq pc' (fun t => cond (pm_cnd c (Int32.ofInt a) 0) (ih 50 h 309 t ls r) (ih 50 h 309 (pc + 3) ls r))
  by_cases hc : pm_cnd c (Int32.ofInt a) (Int32.ofInt 0) = true
  · refine pwl_ld he hq (fun ih => ?_) (HT ((pw_cnd h1 h2 (by omega) (by omega)).mp hc))
    rw [key, hc, cond_true]
  · refine pwl_ld he hq (fun ih => ?_) (HF (fun q => hc ((pw_cnd h1 h2 (by omega) (by omega)).mpr q)))
    rw [key, Bool.not_eq_true _ |>.mp hc, cond_false]
theorem pwl_if2 {c : ClassFile.Cond} {off a b : Int} (he : pm_ent 309 = some (na, nl, own, rt, C)) (hq : pm_get C pc = some (.if_icmp c off, len)) (ht : (pc : Int) + off = (pc' : Int)) (h1 : -2147483648 ≤ a) (h2 : a ≤ 2147483647) (h3 : -2147483648 ≤ b) (h4 : b ≤ 2147483647) (HT : pw_c c a b → pwl X K h pc' ls r Q) (HF : ¬ pw_c c a b → pwl X K h (pc + 3) ls r Q) : pwl X (K + 1) h pc ls (pw_i b :: pw_i a :: r) Q := by
  have key : ∀ ih : pm_I, pm_dsp X (.if_icmp c off) ih 50 h 309 own pc len ls (pw_i b :: pw_i a :: r) = cond (pm_cnd c (Int32.ofInt a) (Int32.ofInt b)) (ih 50 h 309 pc' ls r) (ih 50 h 309 (pc + 3) ls r) := by
    intro ih
    show pm_to ((pc : Int) + off) (fun t => cond (pm_cnd c (Int32.ofInt a) (Int32.ofInt b)) (ih 50 h 309 t ls r) (pm_fn (pc + 3) fun q => ih 50 h 309 q ls r)) = _
    rw [ht]
    rw [pm_fn_eq (pc + 3)]
    exact pm_fn_eq pc' (fun t => cond (pm_cnd c (Int32.ofInt a) (Int32.ofInt b)) (ih 50 h 309 t ls r) (ih 50 h 309 (pc + 3) ls r))
  by_cases hc : pm_cnd c (Int32.ofInt a) (Int32.ofInt b) = true
  · refine pwl_ld he hq (fun ih => ?_) (HT ((pw_cnd h1 h2 h3 h4).mp hc))
    rw [key, hc, cond_true]
  · refine pwl_ld he hq (fun ih => ?_) (HF (fun q => hc ((pw_cnd h1 h2 h3 h4).mpr q)))
    rw [key, Bool.not_eq_true _ |>.mp hc, cond_false]
theorem pwl_tswD {df lo hi a : Int} {offs : Array Int} (he : pm_ent 309 = some (na, nl, own, rt, C)) (hq : pm_get C pc = some (.tableswitch df lo hi offs, len)) (h1 : -2147483648 ≤ a) (h2 : a ≤ 2147483647) (ho : a < lo ∨ hi < a) (ht : (pc : Int) + df = (pc' : Int)) (H : pwl X K h pc' ls r Q) : pwl X (K + 1) h pc ls (pw_i a :: r) Q := by
  refine pwl_ld he hq (fun ih => ?_) H
  show pm_tsw (Int32.ofInt a).toInt lo hi df offs (fun o => pm_to ((pc : Int) + o) fun t => ih 50 h 309 t ls r) = _
  unfold pm_tsw
  rw [pw_toInt h1 h2, if_pos ho]
  show pm_to ((pc : Int) + df) (fun t => ih 50 h 309 t ls r) = _
  rw [ht]
  exact pm_fn_eq pc' (fun t => ih 50 h 309 t ls r)
theorem pwl_tswJ {df lo hi a o : Int} {offs : Array Int} (he : pm_ent 309 = some (na, nl, own, rt, C)) (hq : pm_get C pc = some (.tableswitch df lo hi offs, len)) (h1 : -2147483648 ≤ a) (h2 : a ≤ 2147483647) (ho : ¬ (a < lo ∨ hi < a)) (hj : pm_nth offs.toList (a - lo).toNat = some o) (ht : (pc : Int) + o = (pc' : Int)) (H : pwl X K h pc' ls r Q) : pwl X (K + 1) h pc ls (pw_i a :: r) Q := by
  refine pwl_ld he hq (fun ih => ?_) H
  show pm_tsw (Int32.ofInt a).toInt lo hi df offs (fun o => pm_to ((pc : Int) + o) fun t => ih 50 h 309 t ls r) = _
  unfold pm_tsw
  rw [pw_toInt h1 h2, if_neg ho, hj]
  show pm_to ((pc : Int) + o) (fun t => ih 50 h 309 t ls r) = _
  rw [ht]
  exact pm_fn_eq pc' (fun t => ih 50 h 309 t ls r)
theorem pwl_zret {a : Int} (he : pm_ent 309 = some (na, nl, own, 1, C)) (hq : pm_get C pc = some (.ireturn, len)) (ha : a = 0 ∨ a = 1) (H : Q h (.inl (some (pw_i a)))) : pwl X (K + 1) h pc ls [pw_i a] Q := by
  refine pwl_end he hq (fun ih => ?_) H
  show ((match pm_ent 309 with
    | some e => cond (Nat.ble 0 e.2.2.2.1) (cond (Nat.ble e.2.2.2.1 1) (cond (pm_fit e.2.2.2.1 (pw_i a)) (some (h, .inl (some (pw_i a)))) none) none) none
    | none => none) : pm_R) = _
  rw [he]
  rcases ha with rfl | rfl <;> rfl
theorem pwl_alen {t a : Nat} {l : List Value} (he : pm_ent 309 = some (na, nl, own, rt, C)) (hq : pm_get C pc = some (.arraylength, len)) (hr : pm_row X h a = some (t, l)) (ht : pm_okt t = true) (hc : pc + len = pc') (H : pwl X K h pc' ls (pw_i (l.length : Int) :: r) Q) : pwl X (K + 1) h pc ls (.ref a :: r) Q := by
  subst hc
  refine pwl_ld he hq (st' := pw_i (l.length : Int) :: r) (pc' := pc + len) (fun ih => ?_) H
  show pm_gLen X ih 50 h 309 own pc len ls (.ref a :: r) = _
  unfold pm_gLen
  dsimp only
  rw [hr]
  show cond (pm_okt t) (pm_fn (pm_len l) fun z => pm_fn (pc + len) fun q => ih 50 h 309 q ls (.int (Int32.ofNat z) :: r)) none = _
  rw [ht, cond_true, pm_fn_eq, pm_fn_eq, pm_len_eq]
  rfl
theorem pwl_xlen {a n : Nat} {l : List Value} (he : pm_ent 309 = some (na, nl, own, rt, C)) (hq : pm_get C pc = some (.arraylength, len)) (hX : X[a]? = some (0, l)) (ha : a < 16) (hn : l.length = n) (hc : pc + len = pc') (H : pwl X K h pc' ls (pw_i (n : Int) :: r) Q) : pwl X (K + 1) h pc ls (.ref a :: r) Q := by
  subst hn
  refine pwl_alen he hq (t := 0) (l := l) ?_ rfl hc H
  unfold pm_row
  rw [show Nat.blt a 16 = true from Nat.ble_eq_true_of_le ha, cond_true, pm_nth_eq, hX]
  rfl
theorem pwl_sald {xs : List Int32} {j : Int} (he : pm_ent 309 = some (na, nl, own, rt, C)) (hq : pm_get C pc = some (.iaload, len)) (hX : X[0]? = some (0, xs.map Value.int)) (hl : xs.length ≤ 3584) (h0 : 0 ≤ j) (h1 : j < xs.length) (hc : pc + len = pc') (H : pwl X K h pc' ls (pw_i (pw_s xs j) :: r) Q) : pwl X (K + 1) h pc ls (pw_i j :: .ref 0 :: r) Q := by
  subst hc
  refine pwl_ld he hq (st' := pw_i (pw_s xs j) :: r) (pc' := pc + len) (fun ih => ?_) H
  have er : pm_row X h 0 = some (0, xs.map Value.int) := by
    unfold pm_row
    rw [show Nat.blt 0 16 = true from rfl, cond_true, pm_nth_eq, hX]
    rfl
  have en : (xs.map Value.int)[j.toNat]? = some (pw_i (pw_s xs j)) := by
    rw [List.getElem?_map, List.getElem?_eq_getElem (by omega : j.toNat < xs.length)]
    unfold pw_i pw_s
    rw [Int32.ofInt_toInt, List.getD_eq_getElem?_getD, List.getElem?_eq_getElem (by omega : j.toNat < xs.length)]
    rfl
  show pm_gAld X 0 0 ih 50 h 309 own pc len ls (pw_i j :: .ref 0 :: r) = _
  unfold pm_gAld pw_i
  dsimp only
  rw [er]
  show cond (Nat.beq 0 0 || Nat.beq 0 0) (cond (decide (Int32.ofInt j < 0)) none (match pm_nth (xs.map Value.int) (Int32.ofInt j).toNatClampNeg with
        | some (.int x) => pm_fn (pc + len) fun q => ih 50 h 309 q ls (.int x :: r)
        | _ => none)) none = _
  rw [Nat.beq_refl, Bool.true_or, cond_true, decide_eq_false (pw_neg h0 (by omega)), cond_false, pw_clamp h0 (by omega), pm_nth_eq, en]
  show pm_fn (pc + len) _ = _
  rw [pm_fn_eq]
theorem pwl_call {m' : Nat} {e' : pm_M} {As rest : List Value} {ls'' : pm_L} {Qc : pm_H → (Option Value ⊕ Unit) → Prop} (he : pm_ent 309 = some (na, nl, own, rt, C)) (hq : pm_get C pc = some (i, len)) (hs : ∀ ih : pm_I, pm_dsp X i ih 50 h 309 own pc len ls st = pm_call ih 50 h 309 pc ls m' As rest false) (he' : pm_ent m' = some e') (hm : m' ≠ 309) (hlay : pm_lay As e'.2.1 = ls'') (hlen : pm_len ls'' = e'.2.1)
    (HC : pw X 49 h m' 0 ls'' [] Qc) (HK : ∀ h' v, Qc h' v → ∃ w, v = .inl w ∧ pwl X K h' (pc + 3) ls (w.toList ++ rest) Q) : pwl X (K + 1) h pc ls st Q := by
  obtain ⟨n1, o1, hQ1, hn1⟩ := HC
  obtain ⟨h1, v1⟩ := o1
  obtain ⟨w, hw, k, n2, o2, hk, hQ2, hn2⟩ := HK h1 v1 hQ1
  have hw : v1 = .inl w := hw
  subst hw
  refine ⟨k + 1, max n1 n2, o2, by omega, hQ2, fun n hn' => ?_⟩
  rw [pm_xk_at he hq]
  refine (hs _).trans ?_
  show (match pm_ent m' with
    | none => none
    | some e => cond (Nat.beq (pm_len (pm_lay As e.2.1)) e.2.1) (match pm_ik X n (pm_xk X n k) 49 h m' 0 (pm_lay As e.2.1) [] with
      | some (h', .inl v) => pm_fn (pc + 3) fun q => pm_ik X n (pm_xk X n k) 50 h' 309 q ls (v.toList ++ rest)
      | some (h', .inr _) => cond false (some (h', .inl (some (.int 1)))) none
      | none => none) none) = _
  rw [he']
  show cond (Nat.beq (pm_len (pm_lay As e'.2.1)) e'.2.1) (match pm_ik X n (pm_xk X n k) 49 h m' 0 (pm_lay As e'.2.1) [] with
      | some (h', .inl v) => pm_fn (pc + 3) fun q => pm_ik X n (pm_xk X n k) 50 h' 309 q ls (v.toList ++ rest)
      | some (h', .inr _) => cond false (some (h', .inl (some (.int 1)))) none
      | none => none) none = _
  have hn1 := hn1 n (by omega)
  rw [hlay, hlen, Nat.beq_refl, cond_true, pm_ik_ne hm, hn1]
  show (pm_fn (pc + 3) fun q => pm_ik X n (pm_xk X n k) 50 h1 309 q ls (w.toList ++ rest)) = _
  rw [pm_fn_eq, pm_ik_309]
  exact hn2 n (by omega)
theorem pwl_iV {ix m' nb ci a : Nat} {As rest fs : List Value} {ih : pm_I} (hl : pm_get (pm_lnk 13) ix = some (1, m', nb, ci)) (hp : pm_pop nb st [] = some (.ref a :: As, rest)) (h8 : pm_cat8 rest = true) (hc : pm_cell h a = some (.inr (ci, fs))) : pm_dsp X (.invokevirtual ix) ih 50 h 309 13 pc len ls st = pm_call ih 50 h 309 pc ls m' (.ref a :: As) rest false := by
  show pm_gInv X 1 ix ih 50 h 309 13 pc len ls st = _
  unfold pm_gInv
  rw [hl]
  show (match pm_pop nb st [] with
      | some (As, rest) => cond (pm_cat8 rest) (pm_gC 1 ih 50 h 309 13 pc ls m' ci As rest) none
      | none => none) = _
  rw [hp]
  show cond (pm_cat8 rest) (pm_gC 1 ih 50 h 309 13 pc ls m' ci (.ref a :: As) rest) none = _
  rw [h8, cond_true]
  show (match pm_cell h a with
      | some (.inr (cj, _)) => cond (Nat.beq cj ci) (pm_call ih 50 h 309 pc ls m' (.ref a :: As) rest (Nat.beq 13 13 && !Nat.beq 309 309)) none
      | _ => none) = _
  rw [hc]
  show cond (Nat.beq ci ci) _ none = _
  rw [Nat.beq_refl]
  rfl
theorem pwl_iS {ix m' nb ci : Nat} {As rest : List Value} {ih : pm_I} (hl : pm_get (pm_lnk 13) ix = some (14, m', nb, ci)) (hp : pm_pop nb st [] = some (As, rest)) (h8 : pm_cat8 rest = true) (hsc : pm_all (pm_scl (16 + pm_len h)) ls = true) (hsr : pm_all (pm_scv (16 + pm_len h)) rest = true) : pm_dsp X (.invokestatic ix) ih 50 h 309 13 pc len ls st = pm_call ih 50 h 309 pc ls m' As rest false := by
  show pm_gInv X 2 ix ih 50 h 309 13 pc len ls st = _
  unfold pm_gInv
  rw [hl]
  show (match pm_pop nb st [] with
      | some (As, rest) => cond (pm_cat8 rest) (cond (pm_all (pm_scl (16 + pm_len h)) ls && pm_all (pm_scv (16 + pm_len h)) rest) (pm_call ih 50 h 309 pc ls m' As rest false) none) none
      | none => none) = _
  rw [hp]
  show cond (pm_cat8 rest) (cond (pm_all (pm_scl (16 + pm_len h)) ls && pm_all (pm_scv (16 + pm_len h)) rest) (pm_call ih 50 h 309 pc ls m' As rest false) none) none = _
  rw [h8, cond_true, hsc, hsr]
  rfl
end Pl
section Ph
variable {X : List (Nat × List Value)} {d : Nat} {h : pm_H} {m pc len na nl own rt : Nat} {C : pm_T (Instr × Nat)} {ls : pm_L} {st : List Value} {Q : pm_H → (Option Value ⊕ Unit) → Prop} {i : Instr}
/-- a call in one of the law's helpers: what is thrown there is caught, and answers 1 -/
theorem pw_callH {m' : Nat} {e' : pm_M} {As rest : List Value} {ls'' : pm_L} (hd : 1 ≤ d) {Qc : pm_H → (Option Value ⊕ Unit) → Prop} (he : pm_ent m = some (na, nl, own, rt, C)) (hq : pm_get C pc = some (i, len)) (hs : ∀ ih : pm_I, pm_dsp X i ih d h m own pc len ls st = pm_call ih d h m pc ls m' As rest true) (he' : pm_ent m' = some e') (hlay : pm_lay As e'.2.1 = ls'') (hlen : pm_len ls'' = e'.2.1)
    (HC : pw X (d - 1) h m' 0 ls'' [] Qc) (HK : ∀ h' v, Qc h' v → (v = .inr () ∧ Q h' (.inl (some (.int 1)))) ∨ ∃ w, v = .inl w ∧ pw X d h' m (pc + 3) ls (w.toList ++ rest) Q) : pw X d h m pc ls st Q := by
  obtain ⟨n1, o1, hQ1, hn1⟩ := HC
  obtain ⟨h1, v1⟩ := o1
  obtain ⟨d', rfl⟩ : ∃ d', d = d' + 1 := ⟨d - 1, by omega⟩
  have key : ∀ k, n1 ≤ k → pm_x X (k + 1) (d' + 1) h m pc ls st = (match v1 with
      | .inl v => pm_x X k (d' + 1) h1 m (pc + 3) ls (v.toList ++ rest)
      | .inr _ => some (h1, .inl (some (.int 1)))) := by
    intro k hk
    rw [pm_x_at he hq]
    refine (hs _).trans ?_
    show (match pm_ent m' with
      | none => none
      | some e => cond (Nat.beq (pm_len (pm_lay As e.2.1)) e.2.1) (match pm_x X k d' h m' 0 (pm_lay As e.2.1) [] with
        | some (h', .inl v) => pm_fn (pc + 3) fun q => pm_x X k (d' + 1) h' m q ls (v.toList ++ rest)
        | some (h', .inr _) => cond true (some (h', .inl (some (.int 1)))) none
        | none => none) none) = _
    rw [he']
    show cond (Nat.beq (pm_len (pm_lay As e'.2.1)) e'.2.1) (match pm_x X k d' h m' 0 (pm_lay As e'.2.1) [] with
        | some (h', .inl v) => pm_fn (pc + 3) fun q => pm_x X k (d' + 1) h' m q ls (v.toList ++ rest)
        | some (h', .inr _) => cond true (some (h', .inl (some (.int 1)))) none
        | none => none) none = _
    have hn1 := hn1 k hk
    rw [Nat.add_sub_cancel] at hn1
    rw [hlay, hlen, Nat.beq_refl, cond_true, hn1]
    cases v1 with
    | inl v =>
      show (pm_fn (pc + 3) fun q => pm_x X k (d' + 1) h1 m q ls (v.toList ++ rest)) = _
      rw [pm_fn_eq]
    | inr u => rfl
  rcases HK h1 v1 hQ1 with ⟨hv, hQ⟩ | ⟨w, hw, n2, o2, hQ2, hn2⟩
  · have hv : v1 = .inr () := hv
    subst hv
    refine ⟨n1 + 1, (h1, .inl (some (.int 1))), hQ, fun n hn' => ?_⟩
    obtain ⟨k, rfl⟩ : ∃ k, n = k + 1 := ⟨n - 1, by omega⟩
    exact key k (by omega)
  · have hw : v1 = .inl w := hw
    subst hw
    refine ⟨max n1 n2 + 1, o2, hQ2, fun n hn' => ?_⟩
    obtain ⟨k, rfl⟩ : ∃ k, n = k + 1 := ⟨n - 1, by omega⟩
    exact (key k (by omega)).trans (hn2 k (by omega))
theorem pw_iVh {ix m' nb ci a : Nat} {As rest fs : List Value} {ih : pm_I} (hm : Nat.beq m 309 = false) (hl : pm_get (pm_lnk 13) ix = some (1, m', nb, ci)) (hp : pm_pop nb st [] = some (.ref a :: As, rest)) (h8 : pm_cat8 rest = true) (hc : pm_cell h a = some (.inr (ci, fs))) : pm_dsp X (.invokevirtual ix) ih d h m 13 pc len ls st = pm_call ih d h m pc ls m' (.ref a :: As) rest true := by
  show pm_gInv X 1 ix ih d h m 13 pc len ls st = _
  unfold pm_gInv
  rw [hl]
  show (match pm_pop nb st [] with
      | some (As, rest) => cond (pm_cat8 rest) (pm_gC 1 ih d h m 13 pc ls m' ci As rest) none
      | none => none) = _
  rw [hp]
  show cond (pm_cat8 rest) (pm_gC 1 ih d h m 13 pc ls m' ci (.ref a :: As) rest) none = _
  rw [h8, cond_true]
  show (match pm_cell h a with
      | some (.inr (cj, _)) => cond (Nat.beq cj ci) (pm_call ih d h m pc ls m' (.ref a :: As) rest (Nat.beq 13 13 && !Nat.beq m 309)) none
      | _ => none) = _
  rw [hc, hm]
  show cond (Nat.beq ci ci) _ none = _
  rw [Nat.beq_refl]
  rfl
end Ph
end
