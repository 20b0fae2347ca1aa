section
/-! the class's Readers, exactly: tokens, whole texts -/
set_option maxHeartbeats 4000000 in
theorem cm_45_x26 {X : List (Nat × List Value)} {d : Nat} {h : pm_H} (hd : 5 ≤ d) (I : pw_I h) (hX : pw_Xk X) (K V P : Nat → Int) (n : Nat) (RR : pt_TR) (i : Nat) (hp0 : pw_Xr X) (hp1 : pw_Xs X) (hp2 : pw_Xf X) (hp3 : px_LS 0 26 K V P n RR i h) (hp4 : px_TR (K i) (V i) h) (hp5 : n ≤ 1000) (hp6 : i ≤ n) (hp7 : K n = 0) (hp8 : ∀ j : Nat, 0 ≤ P j) : pw X d h 45 0 [some (.ref 42), some (.ref 40), some (.ref 46)] [] (fun h' v => pw_I h' ∧ pw_E [26, 27, 30, 31, 32, 33, 34, 36] h h' ∧ ∃ a : Int, v = .inl (some (pw_i a)) ∧ 0 ≤ a ∧ a ≤ 5 ∧ (px_LN 0 26 K V P n RR i h' a)) := by
  have E : pm_ent 45 = some (3, 3, 5, 0, pmc_45) := rfl
  have E0 : pw_E [26, 27, 30, 31, 32, 33, 34, 36] h h := pw_E.rf _ _
  have hXr := hp0
  have hXs := hp1
  have hXf := hp2
  have hLS := hp3
  have hTR := hp4
  have hk := hp4.k
  have w9 := px_wn9 (K i) (V i)
  have l0 := (pw_gI (c := 30) (k := 1) I rfl rfl).1
  refine pw_ld E (pc' := 1) (st' := [.ref 42]) rfl (fun _ => rfl) ?_
  refine pw_getI2 I E (c := 26) (k := 7) (pc' := 4) rfl rfl rfl rfl rfl rfl (fun hf1a hf1b => ?_)
  rcases (by omega : pw_g h 26 7 = 0 ∨ pw_g h 26 7 = 1 ∨ pw_g h 26 7 = 2 ∨ pw_g h 26 7 = 3 ∨ pw_g h 26 7 = 4 ∨ (pw_g h 26 7 < 0 ∨ 4 < pw_g h 26 7)) with hs2 | hs2 | hs2 | hs2 | hs2 | hs2
  · refine pw_tswJ (o := 36) E (pc' := 40) rfl (by omega) (by omega) (by omega) (by rw [hs2]; rfl) (by decide) ?_
    have hLE := hLS.c0 (by omega)
    refine pw_ld E (pc' := 41) (st' := [.ref 42]) rfl (fun _ => rfl) ?_
    refine pw_ld E (pc' := 42) (st' := [.ref 40, .ref 42]) rfl (fun _ => rfl) ?_
    refine pw_ld E (pc' := 43) (st' := [.ref 46, .ref 40, .ref 42]) rfl (fun _ => rfl) ?_
    obtain ⟨f3l, f3h, -⟩ := pw_obj (c := 26) I rfl
    refine pw_call (m' := 46) (As := [.ref 42, .ref 40, .ref 46]) (rest := []) (ls'' := [some (.ref 42), some (.ref 40), some (.ref 46), none]) (Nat.le_trans (by decide) hd) E rfl (fun _ => pw_iV rfl rfl rfl rfl (pw_cellI f3h rfl)) (rfl : pm_ent 46 = some (3, 4, 5, 0, pmc_46)) rfl rfl (cm_46_x26 (pw_dp hd (by decide)) I hX (K i) (V i) hTR hXs hXf) ?_
    rintro h4 v5 ⟨h4I, h4E, x6, rfl, hx6a, hx6b, hx6r⟩
    refine ⟨_, rfl, ?_⟩
    have h4F := E0.tr (h4E.wk (W' := [26, 27, 30, 31, 32, 33, 34, 36]) (by first | rfl | simp))
    show pw X d h4 45 46 [some (.ref 42), some (.ref 40), some (.ref 46)] [pw_i x6] _
    change px_Q46 0 26 (K i) (V i) h h4 x6 at hx6r
    refine pw_iret E rfl ?_
    exact ⟨h4I, h4F, ⟨_, rfl, by omega, by omega, px_L0 hLE hp6 hp8 l0 hx6r (pw_Eg (c := 30) I h4E rfl rfl 1) (pw_Eg (c := 34) I h4E rfl rfl) (pw_Eg (c := 36) I h4E rfl rfl)⟩⟩
  · refine pw_tswJ (o := 43) E (pc' := 47) rfl (by omega) (by omega) (by omega) (by rw [hs2]; rfl) (by decide) ?_
    obtain ⟨b, w, th, C, N, hLB, hb, hF, hZ⟩ := hLS.c1 (by omega)
    refine pw_ld E (pc' := 48) (st' := [.ref 42]) rfl (fun _ => rfl) ?_
    refine pw_ld E (pc' := 49) (st' := [pw_i 2, .ref 42]) rfl (fun _ => rfl) ?_
    refine pw_putI I E (c := 26) (k := 7) (pc' := 52) rfl rfl rfl rfl (by omega) (by omega) (by omega) (by omega) rfl rfl ?_
    intro h7I h7E
    generalize h7w : pw_w h 26 7 (pw_i 2) = h7 at h7I h7E ⊢
    have h7F := E0.tr (h7E.wk (W' := [26, 27, 30, 31, 32, 33, 34, 36]) (by first | rfl | simp))
    have hTR1 : px_TR (K i) (V i) h7 := hTR.eq (fun k => by rw [← h7w]; exact pw_g_ne (by omega)) (fun j => by rw [← h7w]; exact pw_g_ne (by omega))
    have t24 : pw_g h7 24 4 = pw_g h 24 4 := by rw [← h7w]; exact pw_g_ne (by omega)
    have t25 : pw_g h7 24 5 = pw_g h 24 5 := by rw [← h7w]; exact pw_g_ne (by omega)
    refine pw_ld E (pc' := 53) (st' := [.ref 40]) rfl (fun _ => rfl) ?_
    refine pw_ld E (pc' := 55) (st' := [.ref 9, .ref 40]) rfl (fun _ => rfl) ?_
    obtain ⟨f8l, f8h, -⟩ := pw_obj (c := 24) h7I rfl
    refine pw_call (m' := 108) (As := [.ref 40, .ref 9]) (rest := []) (ls'' := [some (.ref 40), some (.ref 9), none, none, none, none, none]) (Nat.le_trans (by decide) hd) E rfl (fun _ => pw_iV rfl rfl rfl rfl (pw_cellI f8h rfl)) (rfl : pm_ent 108 = some (2, 7, 9, 0, pmc_108)) rfl rfl (cm_108_w (pw_dp hd (by decide)) h7I hX 9 (by omega) (by omega) (K i) (V i) hTR1 hXs (by decide)) ?_
    rintro u10 v9 ⟨rfl, x11, rfl, hx11a, hx11b, hx11r⟩
    refine ⟨_, rfl, ?_⟩
    show pw X d h7 45 58 [some (.ref 42), some (.ref 40), some (.ref 46)] [pw_i x11] _
    change x11 = px_wn 9 (K i) (V i) at hx11r
    refine pw_if E (pc' := 65) rfl (by decide) (by omega) (by omega) ?_ ?_
    · intro hc12
      change x11 ≠ (0 : Int) at hc12
      refine pw_ld E (pc' := 66) (st' := [pw_i 1]) rfl (fun _ => rfl) ?_
      refine pw_iret E rfl ?_
      exact ⟨h7I, h7F, ⟨_, rfl, by omega, by omega, px_L1 hLB hb hF hZ hp8 l0 ⟨(by rw [← h7w]; exact pw_g_eq (c := 26) (k := 7) I rfl rfl (by omega) (by omega)), fun k hk => (by rw [← h7w]; exact pw_g_ne (fun q => hk q.2.symm)), (fun j => by rw [← h7w]; exact pw_g_ne (by omega)), (fun j => by rw [← h7w]; exact pw_g_ne (by omega)), (fun j => by rw [← h7w]; exact pw_g_ne (by omega)), (fun j => by rw [← h7w]; exact pw_g_ne (by omega)), (fun j => by rw [← h7w]; exact pw_g_ne (by omega))⟩ (fun j => by rw [← h7w]; exact pw_g_ne (by omega)) (by omega)⟩⟩
    · intro hc13
      change ¬ (x11 ≠ (0 : Int)) at hc13
      refine pw_ld E (pc' := 62) (st' := [pw_i 0]) rfl (fun _ => rfl) ?_
      refine pw_goto E (pc' := 66) rfl (by decide) ?_
      refine pw_iret E rfl ?_
      exact ⟨h7I, h7F, ⟨_, rfl, by omega, by omega, px_L1 hLB hb hF hZ hp8 l0 ⟨(by rw [← h7w]; exact pw_g_eq (c := 26) (k := 7) I rfl rfl (by omega) (by omega)), fun k hk => (by rw [← h7w]; exact pw_g_ne (fun q => hk q.2.symm)), (fun j => by rw [← h7w]; exact pw_g_ne (by omega)), (fun j => by rw [← h7w]; exact pw_g_ne (by omega)), (fun j => by rw [← h7w]; exact pw_g_ne (by omega)), (fun j => by rw [← h7w]; exact pw_g_ne (by omega)), (fun j => by rw [← h7w]; exact pw_g_ne (by omega))⟩ (fun j => by rw [← h7w]; exact pw_g_ne (by omega)) (by omega)⟩⟩
  · refine pw_tswJ (o := 63) E (pc' := 67) rfl (by omega) (by omega) (by omega) (by rw [hs2]; rfl) (by decide) ?_
    obtain ⟨b, w, th, C, N, hLB, hLX⟩ := hLS.cX (m := 0) (by omega) (by omega)
    have hIN := hLX.2.2.2.1
    have hp6k : i ≤ 1000 := by omega
    refine pw_ld E (pc' := 68) (st' := [.ref 42]) rfl (fun _ => rfl) ?_
    refine pw_ld E (pc' := 69) (st' := [.ref 40, .ref 42]) rfl (fun _ => rfl) ?_
    refine pw_ld E (pc' := 70) (st' := [.ref 46, .ref 40, .ref 42]) rfl (fun _ => rfl) ?_
    obtain ⟨f14l, f14h, -⟩ := pw_obj (c := 26) I rfl
    refine pw_call (m' := 47) (As := [.ref 42, .ref 40, .ref 46]) (rest := []) (ls'' := [some (.ref 42), some (.ref 40), some (.ref 46), none, none, none, none]) (Nat.le_trans (by decide) hd) E rfl (fun _ => pw_iV rfl rfl rfl rfl (pw_cellI f14h rfl)) (rfl : pm_ent 47 = some (3, 7, 5, 0, pmc_47)) rfl rfl (cm_47_x26 (pw_dp hd (by decide)) I hX (K i) (V i) (pw_g h 32 w.toNat) ((i : Int) - 1) hTR hXs hIN (by omega) (by omega)) ?_
    rintro h15 v16 ⟨h15I, h15E, x17, rfl, hx17a, hx17b, hx17r⟩
    refine ⟨_, rfl, ?_⟩
    have h15F := E0.tr (h15E.wk (W' := [26, 27, 30, 31, 32, 33, 34, 36]) (by first | rfl | simp))
    show pw X d h15 45 73 [some (.ref 42), some (.ref 40), some (.ref 46)] [pw_i x17] _
    change (x17 ≠ 0 ∧ (pt_es (pt_FF 0) (K i) (V i) (px_s 26 h (pw_g h 32 w.toNat) 0)).1 = x17) ∨ (x17 = 0 ∧ (pt_es (pt_FF 0) (K i) (V i) (px_s 26 h (pw_g h 32 w.toNat) 0)).1 = 0 ∧ px_PO 26 (pw_g h 32 w.toNat) (((i : Int) - 1) + 1) h h15 (pt_es (pt_FF 0) (K i) (V i) (px_s 26 h (pw_g h 32 w.toNat) 0)).2.1 (pt_es (pt_FF 0) (K i) (V i) (px_s 26 h (pw_g h 32 w.toNat) 0)).2) at hx17r
    refine pw_iret E rfl ?_
    exact ⟨h15I, h15F, ⟨_, rfl, by omega, by omega, px_L2 hLB hLX hp6k hp8 (by omega) (by omega) (pw_Eg (c := 31) I h15E rfl rfl) (pw_Eg (c := 32) I h15E rfl rfl) (pw_Eg (c := 34) I h15E rfl rfl) (hx17r.elim Or.inl (fun q => Or.inr (Or.inl q)))⟩⟩
  · refine pw_tswJ (o := 70) E (pc' := 74) rfl (by omega) (by omega) (by omega) (by rw [hs2]; rfl) (by decide) ?_
    obtain ⟨b, w, th, C, N, hLB, hLX⟩ := hLS.cX (m := 1) (by omega) (by omega)
    have hIN := hLX.2.2.2.1
    have hp6k : i ≤ 1000 := by omega
    have hn8 := hLX.2.2.1 rfl
    refine pw_ld E (pc' := 75) (st' := [.ref 42]) rfl (fun _ => rfl) ?_
    refine pw_ld E (pc' := 76) (st' := [.ref 40, .ref 42]) rfl (fun _ => rfl) ?_
    refine pw_ld E (pc' := 77) (st' := [.ref 46, .ref 40, .ref 42]) rfl (fun _ => rfl) ?_
    obtain ⟨f18l, f18h, -⟩ := pw_obj (c := 26) I rfl
    refine pw_call (m' := 50) (As := [.ref 42, .ref 40, .ref 46]) (rest := []) (ls'' := [some (.ref 42), some (.ref 40), some (.ref 46), none, none]) (Nat.le_trans (by decide) hd) E rfl (fun _ => pw_iV rfl rfl rfl rfl (pw_cellI f18h rfl)) (rfl : pm_ent 50 = some (3, 5, 5, 0, pmc_50)) rfl rfl (cm_50_x26 (pw_dp hd (by decide)) I hX (K i) (V i) (pw_g h 32 w.toNat) ((i : Int) - 1) hXr hTR hXs hIN (by omega) hn8) ?_
    rintro h19 v20 ⟨h19I, h19E, x21, rfl, hx21a, hx21b, hx21r⟩
    refine ⟨_, rfl, ?_⟩
    have h19F := E0.tr (h19E.wk (W' := [26, 27, 30, 31, 32, 33, 34, 36]) (by first | rfl | simp))
    show pw X d h19 45 80 [some (.ref 42), some (.ref 40), some (.ref 46)] [pw_i x21] _
    change (x21 ≠ 0 ∧ (pt_es (pt_FF 0) (K i) (V i) (px_s 26 h (pw_g h 32 w.toNat) 1)).1 = x21) ∨ (x21 = 0 ∧ (pt_es (pt_FF 0) (K i) (V i) (px_s 26 h (pw_g h 32 w.toNat) 1)).1 = 0 ∧ px_PO 26 (pw_g h 32 w.toNat) (((i : Int) - 1) + 1) h h19 (pt_es (pt_FF 0) (K i) (V i) (px_s 26 h (pw_g h 32 w.toNat) 1)).2.1 (pt_es (pt_FF 0) (K i) (V i) (px_s 26 h (pw_g h 32 w.toNat) 1)).2) ∨ (x21 = 0 ∧ (pt_es (pt_FF 0) (K i) (V i) (px_s 26 h (pw_g h 32 w.toNat) 1)).1 = 9 ∧ px_EN 26 (pw_g h 32 w.toNat) ((i : Int) - 1) h h19 (pt_es (pt_FF 0) (K i) (V i) (px_s 26 h (pw_g h 32 w.toNat) 1)).2) at hx21r
    refine pw_iret E rfl ?_
    exact ⟨h19I, h19F, ⟨_, rfl, by omega, by omega, px_L2 hLB hLX hp6k hp8 (by omega) (by omega) (pw_Eg (c := 31) I h19E rfl rfl) (pw_Eg (c := 32) I h19E rfl rfl) (pw_Eg (c := 34) I h19E rfl rfl) hx21r⟩⟩
  · refine pw_tswJ (o := 77) E (pc' := 81) rfl (by omega) (by omega) (by omega) (by rw [hs2]; rfl) (by decide) ?_
    obtain ⟨b, w, th, C, N, hLB, hb, hF, hZ⟩ := hLS.c4 (by omega)
    refine pw_ld E (pc' := 82) (st' := [.ref 42]) rfl (fun _ => rfl) ?_
    refine pw_ld E (pc' := 83) (st' := [.ref 40, .ref 42]) rfl (fun _ => rfl) ?_
    refine pw_ld E (pc' := 84) (st' := [.ref 46, .ref 40, .ref 42]) rfl (fun _ => rfl) ?_
    obtain ⟨f22l, f22h, -⟩ := pw_obj (c := 26) I rfl
    refine pw_call (m' := 56) (As := [.ref 42, .ref 40, .ref 46]) (rest := []) (ls'' := [some (.ref 42), some (.ref 40), some (.ref 46)]) (Nat.le_trans (by decide) hd) E rfl (fun _ => pw_iV rfl rfl rfl rfl (pw_cellI f22h rfl)) (rfl : pm_ent 56 = some (3, 3, 5, 0, pmc_56)) rfl rfl (cm_56_x26 (pw_dp hd (by decide)) I hX (K i) (V i) hTR hXs hXf) ?_
    rintro h23 v24 ⟨h23I, h23E, x25, rfl, hx25a, hx25b, hx25r⟩
    refine ⟨_, rfl, ?_⟩
    have h23F := E0.tr (h23E.wk (W' := [26, 27, 30, 31, 32, 33, 34, 36]) (by first | rfl | simp))
    show pw X d h23 45 87 [some (.ref 42), some (.ref 40), some (.ref 46)] [pw_i x25] _
    change px_Q56 0 26 (K i) (V i) h h23 x25 at hx25r
    refine pw_iret E rfl ?_
    exact ⟨h23I, h23F, ⟨_, rfl, by omega, by omega, px_L4 hLB hb hF hZ hp8 hx25r (pw_Eg (c := 30) I h23E rfl rfl) (pw_Eg (c := 31) I h23E rfl rfl) (pw_Eg (c := 32) I h23E rfl rfl) (pw_Eg (c := 33) I h23E rfl rfl) (pw_Eg (c := 36) I h23E rfl rfl)⟩⟩
  · refine pw_tswD E (pc' := 88) rfl (by omega) (by omega) hs2 (by decide) ?_
    obtain ⟨b, w, th, C, N, hLB, hb, hF, hZ, hk2, hv2, hn2⟩ := hLS.c5 (by omega)
    refine pw_ld E (pc' := 89) (st' := [.ref 42]) rfl (fun _ => rfl) ?_
    refine pw_ld E (pc' := 90) (st' := [pw_i 0, .ref 42]) rfl (fun _ => rfl) ?_
    refine pw_putI I E (c := 26) (k := 7) (pc' := 93) rfl rfl rfl rfl (by omega) (by omega) (by omega) (by omega) rfl rfl ?_
    intro h26I h26E
    generalize h26w : pw_w h 26 7 (pw_i 0) = h26 at h26I h26E ⊢
    have h26F := E0.tr (h26E.wk (W' := [26, 27, 30, 31, 32, 33, 34, 36]) (by first | rfl | simp))
    have hTR1 : px_TR (K i) (V i) h26 := hTR.eq (fun k => by rw [← h26w]; exact pw_g_ne (by omega)) (fun j => by rw [← h26w]; exact pw_g_ne (by omega))
    have t24 : pw_g h26 24 4 = pw_g h 24 4 := by rw [← h26w]; exact pw_g_ne (by omega)
    have t25 : pw_g h26 24 5 = pw_g h 24 5 := by rw [← h26w]; exact pw_g_ne (by omega)
    refine pw_ld E (pc' := 94) (st' := [.ref 40]) rfl (fun _ => rfl) ?_
    refine pw_bip E (pc' := 96) rfl rfl (by decide) ?_
    obtain ⟨f27l, f27h, -⟩ := pw_obj (c := 24) h26I rfl
    refine pw_call (m' := 109) (As := [.ref 40, pw_i 59]) (rest := []) (ls'' := [some (.ref 40), some (pw_i 59)]) (Nat.le_trans (by decide) hd) E rfl (fun _ => pw_iV rfl rfl rfl rfl (pw_cellI f27h rfl)) (rfl : pm_ent 109 = some (2, 2, 9, 1, pmc_109)) rfl rfl (cm_109_x24 (pw_dp hd (by decide)) h26I (59) (by omega) (by omega)) ?_
    rintro u29 v28 ⟨rfl, x30, rfl, hx30a, hx30b, hx30r⟩
    refine ⟨_, rfl, ?_⟩
    show pw X d h26 45 99 [some (.ref 42), some (.ref 40), some (.ref 46)] [pw_i x30] _
    change (x30 = 1 ∧ pw_g h26 24 4 = 3 ∧ pw_g h26 24 5 = 59) ∨ (x30 = 0 ∧ ¬ (pw_g h26 24 4 = 3 ∧ pw_g h26 24 5 = 59)) at hx30r
    rcases (by omega : x30 = 1 ∨ x30 = 0) with hb31 | hb31
    · skip
      refine pw_if E (pc' := 106) rfl (by decide) (by omega) (by omega) ?_ ?_
      · intro hc32
        change x30 = (0 : Int) at hc32
        exfalso; omega
      · intro hc33
        change ¬ (x30 = (0 : Int)) at hc33
        refine pw_ld E (pc' := 103) (st' := [pw_i 0]) rfl (fun _ => rfl) ?_
        refine pw_goto E (pc' := 107) rfl (by decide) ?_
        refine pw_iret E rfl ?_
        exact ⟨h26I, h26F, ⟨_, rfl, by omega, by omega, px_L5 hLB hb hF hZ hk2 hv2 hn2 hp8 l0 ⟨(by rw [← h26w]; exact pw_g_eq (c := 26) (k := 7) I rfl rfl (by omega) (by omega)), fun k hk => (by rw [← h26w]; exact pw_g_ne (fun q => hk q.2.symm)), (fun j => by rw [← h26w]; exact pw_g_ne (by omega)), (fun j => by rw [← h26w]; exact pw_g_ne (by omega)), (fun j => by rw [← h26w]; exact pw_g_ne (by omega)), (fun j => by rw [← h26w]; exact pw_g_ne (by omega)), (fun j => by rw [← h26w]; exact pw_g_ne (by omega))⟩ (fun j => by rw [← h26w]; exact pw_g_ne (by omega)) (by omega)⟩⟩
    · skip
      refine pw_if E (pc' := 106) rfl (by decide) (by omega) (by omega) ?_ ?_
      · intro hc35
        change x30 = (0 : Int) at hc35
        refine pw_ld E (pc' := 107) (st' := [pw_i 1]) rfl (fun _ => rfl) ?_
        refine pw_iret E rfl ?_
        exact ⟨h26I, h26F, ⟨_, rfl, by omega, by omega, px_L5 hLB hb hF hZ hk2 hv2 hn2 hp8 l0 ⟨(by rw [← h26w]; exact pw_g_eq (c := 26) (k := 7) I rfl rfl (by omega) (by omega)), fun k hk => (by rw [← h26w]; exact pw_g_ne (fun q => hk q.2.symm)), (fun j => by rw [← h26w]; exact pw_g_ne (by omega)), (fun j => by rw [← h26w]; exact pw_g_ne (by omega)), (fun j => by rw [← h26w]; exact pw_g_ne (by omega)), (fun j => by rw [← h26w]; exact pw_g_ne (by omega)), (fun j => by rw [← h26w]; exact pw_g_ne (by omega))⟩ (fun j => by rw [← h26w]; exact pw_g_ne (by omega)) (by omega)⟩⟩
      · intro hc36
        change ¬ (x30 = (0 : Int)) at hc36
        exfalso; omega
set_option maxHeartbeats 4000000 in
theorem cm_44_x26 {X : List (Nat × List Value)} {d : Nat} {h : pm_H} (hd : 6 ≤ d) (I : pw_I h) (hX : pw_Xk X) (L : List pt_tok) (hp0 : pw_Xr X) (hp1 : pw_Xs X) (hp2 : pw_Xf X) (hp3 : pt_sg (pw_g h 25) (pw_g h 24 1).toNat 0 L (pw_g h 24 1).toNat) : pw X d h 44 0 [some (.ref 42), some (.ref 40), some (.ref 46), none, none] [] (fun h' v => pw_I h' ∧ pw_E [24, 26, 27, 30, 31, 32, 33, 34, 36] h h' ∧ ∃ a : Int, v = .inl (some (pw_i a)) ∧ (-2147483648) ≤ a ∧ a ≤ 2147483647 ∧ ((a ≠ 0 ∧ (pt_TX 0 L (pw_g h 24 1).toNat).1 = a) ∨ (a = 0 ∧ ∃ (th : Int → Int) (C : Int → List Int) (N : Int → Int), pt_TX 0 L (pw_g h 24 1).toNat = (0, th, C, N) ∧ px_ML 0 h' th C N ∧ pw_g h' 30 1 ≤ 999))) := by
  have E : pm_ent 44 = some (3, 5, 5, 0, pmc_44) := rfl
  have E0 : pw_E [24, 26, 27, 30, 31, 32, 33, 34, 36] h h := pw_E.rf _ _
  have hXr := hp0
  have hXs := hp1
  have hXf := hp2
  have hz := pw_gI (c := 24) (k := 1) I rfl rfl
  have hln := hp3.len
  have hL : L.length ≤ 1000 := by omega
  have hKn : pt_K L L.length = 0 := by unfold pt_K; rw [pt_gt2 (Nat.le_refl _)]
  have hP0 : ∀ j : Nat, 0 ≤ pt_P L (pw_g h 24 1).toNat j := fun j => by unfold pt_P; split <;> omega
  refine pw_ld E (pc' := 1) (st' := [.ref 46]) rfl (fun _ => rfl) ?_
  obtain ⟨f1l, f1h, -⟩ := pw_obj (c := 30) I rfl
  refine pw_call (m' := 68) (As := [.ref 46]) (rest := []) (ls'' := [some (.ref 46), none]) (Nat.le_trans (by decide) hd) E rfl (fun _ => pw_iV rfl rfl rfl rfl (pw_cellI f1h rfl)) (rfl : pm_ent 68 = some (1, 2, 7, 4, pmc_68)) rfl rfl (cm_68_x (pw_dp hd (by decide)) I ) ?_
  rintro h2 v3 ⟨h2I, h2E, hqcl, rfl⟩
  refine ⟨_, rfl, ?_⟩
  have h2F := E0.tr (h2E.wk (W' := [24, 26, 27, 30, 31, 32, 33, 34, 36]) (by first | rfl | simp))
  show pw X d h2 44 4 [some (.ref 42), some (.ref 40), some (.ref 46), none, none] [] _
  refine pw_ld E (pc' := 5) (st' := [.ref 40]) rfl (fun _ => rfl) ?_
  obtain ⟨f4l, f4h, -⟩ := pw_obj (c := 24) h2I rfl
  refine pw_call (m' := 100) (As := [.ref 40]) (rest := []) (ls'' := [some (.ref 40)]) (Nat.le_trans (by decide) hd) E rfl (fun _ => pw_iV rfl rfl rfl rfl (pw_cellI f4h rfl)) (rfl : pm_ent 100 = some (1, 1, 9, 4, pmc_100)) rfl rfl (cm_100_x24 (pw_dp hd (by decide)) h2I ) ?_
  rintro h5 v6 ⟨h5I, h5E, hqrw, rfl⟩
  refine ⟨_, rfl, ?_⟩
  have h5F := h2F.tr (h5E.wk (W' := [24, 26, 27, 30, 31, 32, 33, 34, 36]) (by first | rfl | simp))
  show pw X d h5 44 8 [some (.ref 42), some (.ref 40), some (.ref 46), none, none] [] _
  refine pw_ld E (pc' := 9) (st' := [.ref 42]) rfl (fun _ => rfl) ?_
  refine pw_ld E (pc' := 10) (st' := [pw_i 0, .ref 42]) rfl (fun _ => rfl) ?_
  refine pw_putI h5I E (c := 26) (k := 7) (pc' := 13) rfl rfl rfl rfl (by omega) (by omega) (by omega) (by omega) rfl rfl ?_
  intro h7I h7E
  generalize h7w : pw_w h5 26 7 (pw_i 0) = h7 at h7I h7E ⊢
  have h7F := h5F.tr (h7E.wk (W' := [24, 26, 27, 30, 31, 32, 33, 34, 36]) (by first | rfl | simp))
  have z7 : pw_g h7 26 7 = 0 := by rw [← h7w]; exact pw_g_eq (c := 26) (k := 7) h5I rfl rfl (by omega) (by omega)
  have z1 : pw_g h7 30 1 = 0 := by rw [← h7w, pw_g_ne (by omega), pw_Eg (c := 30) h2I h5E rfl rfl 1]; exact hqcl.1
  have z31 : ∀ j : Nat, j < 4 → pw_g h7 31 j = 0 := fun j hj => by rw [← h7w, pw_g_ne (by omega), pw_Eg (c := 31) h2I h5E rfl rfl j]; exact hqcl.2 j hj
  have z243 : pw_g h7 24 3 = 0 := by rw [← h7w, pw_g_ne (by omega)]; exact hqrw.1
  have z241 : pw_g h7 24 1 = pw_g h 24 1 := by rw [← h7w, pw_g_ne (by omega), hqrw.2]; exact pw_Eg (c := 24) I h2E rfl rfl 1
  have zS : pt_sg (pw_g h 25) (pw_g h 24 1).toNat (pw_g h7 24 3).toNat (L.drop (0 : Int).toNat) (pw_g h 24 1).toNat := by rw [z243]; exact hp3
  have zL : px_LS 0 26 (pt_K L) (pt_V L) (pt_P L (pw_g h 24 1).toNat) L.length (pt_TX 0 L (pw_g h 24 1).toNat) (0 : Int).toNat h7 := px_LS0 z7 z1 z31
  refine pw_ld E (pc' := 14) (st' := [pw_i 0]) rfl (fun _ => rfl) ?_
  refine pw_istn E (pc' := 15) (ls' := [some (.ref 42), some (.ref 40), some (.ref 46), some (pw_i 0), none]) rfl rfl rfl rfl ?_
  have L15 : ∀ (n15 : Nat) (k15_3 : Int) (k15_4 : Option Value) (gh15 : pm_H), pw_I gh15 → pw_E [24, 26, 27, 30, 31, 32, 33, 34, 36] h gh15 → 0 ≤ k15_3 → k15_3 ≤ 1001 → px_LS 0 26 (pt_K L) (pt_V L) (pt_P L (pw_g h 24 1).toNat) L.length (pt_TX 0 L (pw_g h 24 1).toNat) (k15_3).toNat gh15 → pt_sg (pw_g h 25) (pw_g h 24 1).toNat (pw_g gh15 24 3).toNat (L.drop (k15_3).toNat) (pw_g h 24 1).toNat → pw_g gh15 24 1 = pw_g h 24 1 → (k15_3).toNat ≤ L.length → (1001 - k15_3).toNat = n15 → pw X d gh15 44 15 [some (.ref 42), some (.ref 40), some (.ref 46), some (pw_i k15_3), k15_4] [] (fun h' v => pw_I h' ∧ pw_E [24, 26, 27, 30, 31, 32, 33, 34, 36] h h' ∧ ∃ a : Int, v = .inl (some (pw_i a)) ∧ (-2147483648) ≤ a ∧ a ≤ 2147483647 ∧ ((a ≠ 0 ∧ (pt_TX 0 L (pw_g h 24 1).toNat).1 = a) ∨ (a = 0 ∧ ∃ (th : Int → Int) (C : Int → List Int) (N : Int → Int), pt_TX 0 L (pw_g h 24 1).toNat = (0, th, C, N) ∧ px_ML 0 h' th C N ∧ pw_g h' 30 1 ≤ 999))) := by
    intro n15
    induction n15 using Nat.strongRecOn with
    | ind n15 ih15 =>
      intro k15_3 k15_4 gh15 I15 E15 k15_3a k15_3b hx15_0 hx15_1 hx15_2 hx15_3 hm15
      refine pw_ld E (pc' := 16) (st' := [pw_i k15_3]) rfl (fun _ => rfl) ?_
      refine pw_sip E (pc' := 19) rfl rfl (by decide) ?_
      refine pw_if2 E (pc' := 66) rfl (by decide) (by omega) (by omega) (by decide) (by decide) ?_ ?_
      · intro hc8
        change (1000 : Int) < k15_3 at hc8
        refine pw_ld E (pc' := 67) (st' := [pw_i 0]) rfl (fun _ => rfl) ?_
        refine pw_iret E rfl ?_
        exfalso
        omega
      · intro hc9
        change ¬ ((1000 : Int) < k15_3) at hc9
        have hlen15 := hx15_1.len
        have hend15 := pw_gI (c := 24) (k := 3) I15 rfl rfl
        refine pw_ld E (pc' := 23) (st' := [.ref 40]) rfl (fun _ => rfl) ?_
        obtain ⟨f10l, f10h, -⟩ := pw_obj (c := 24) I15 rfl
        refine pw_call (m' := 101) (As := [.ref 40]) (rest := []) (ls'' := [some (.ref 40)]) (Nat.le_trans (by decide) hd) E rfl (fun _ => pw_iV rfl rfl rfl rfl (pw_cellI f10h rfl)) (rfl : pm_ent 101 = some (1, 1, 9, 4, pmc_101)) rfl rfl (cm_101_x24 (pw_dp hd (by decide)) I15 hX hXs (by omega)) ?_
        rintro h11 v12 ⟨h11I, h11E, hqad, rfl⟩
        refine ⟨_, rfl, ?_⟩
        have h11F := E15.tr (h11E.wk (W' := [24, 26, 27, 30, 31, 32, 33, 34, 36]) (by first | rfl | simp))
        show pw X d h11 44 26 [some (.ref 42), some (.ref 40), some (.ref 46), some (pw_i k15_3), k15_4] [] _
        have hT0 : pw_g gh15 25 = pw_g h 25 := funext (fun j => pw_Eg (c := 25) I E15 rfl rfl j)
        have hz1 : pw_g gh15 24 1 = pw_g h 24 1 := hx15_2
        have hT1 : pw_g h11 25 = pw_g gh15 25 := funext (fun j => pw_Eg (c := 25) I15 h11E rfl rfl j)
        have hSg := hx15_1
        rw [← hT0, ← hz1] at hSg
        obtain ⟨hA1, hA2, hA3, hA4, hA5, hA6⟩ := px_adv hqad hT1 (by omega) (by omega) hSg
        rw [hT0, hz1] at hA4
        rw [hz1] at hA2 hA5
        have hz2 : pw_g h11 24 1 = pw_g h 24 1 := hqad.1.trans hz1
        have hLS2 : px_LS 0 26 (pt_K L) (pt_V L) (pt_P L (pw_g h 24 1).toNat) L.length (pt_TX 0 L (pw_g h 24 1).toNat) (k15_3).toNat h11 := hx15_0.eq (pw_Eg (c := 26) I15 h11E rfl rfl) (pw_Eg (c := 27) I15 h11E rfl rfl) (pw_Eg (c := 30) I15 h11E rfl rfl) (pw_Eg (c := 31) I15 h11E rfl rfl) (pw_Eg (c := 32) I15 h11E rfl rfl) (pw_Eg (c := 33) I15 h11E rfl rfl) (pw_Eg (c := 34) I15 h11E rfl rfl) (pw_Eg (c := 36) I15 h11E rfl rfl)
        refine pw_ld E (pc' := 27) (st' := [.ref 42]) rfl (fun _ => rfl) ?_
        refine pw_ld E (pc' := 28) (st' := [.ref 40, .ref 42]) rfl (fun _ => rfl) ?_
        refine pw_ld E (pc' := 29) (st' := [.ref 46, .ref 40, .ref 42]) rfl (fun _ => rfl) ?_
        obtain ⟨f13l, f13h, -⟩ := pw_obj (c := 26) h11I rfl
        refine pw_call (m' := 45) (As := [.ref 42, .ref 40, .ref 46]) (rest := []) (ls'' := [some (.ref 42), some (.ref 40), some (.ref 46)]) (Nat.le_trans (by decide) hd) E rfl (fun _ => pw_iV rfl rfl rfl rfl (pw_cellI f13h rfl)) (rfl : pm_ent 45 = some (3, 3, 5, 0, pmc_45)) rfl rfl (cm_45_x26 (pw_dp hd (by decide)) h11I hX (pt_K L) (pt_V L) (pt_P L (pw_g h 24 1).toNat) L.length (pt_TX 0 L (pw_g h 24 1).toNat) (k15_3).toNat hXr hXs hXf hLS2 hA1 (by omega) (by omega) hKn hP0) ?_
        rintro h14 v15 ⟨h14I, h14E, x16, rfl, hx16a, hx16b, hx16r⟩
        refine ⟨_, rfl, ?_⟩
        have h14F := h11F.tr (h14E.wk (W' := [24, 26, 27, 30, 31, 32, 33, 34, 36]) (by first | rfl | simp))
        show pw X d h14 44 32 [some (.ref 42), some (.ref 40), some (.ref 46), some (pw_i k15_3), k15_4] [pw_i x16] _
        change px_LN 0 26 (pt_K L) (pt_V L) (pt_P L (pw_g h 24 1).toNat) L.length (pt_TX 0 L (pw_g h 24 1).toNat) (k15_3).toNat h14 x16 at hx16r
        have e241 : pw_g h14 24 1 = pw_g h11 24 1 := pw_Eg (c := 24) h11I h14E rfl rfl 1
        have e242 : pw_g h14 24 2 = pw_g h11 24 2 := pw_Eg (c := 24) h11I h14E rfl rfl 2
        have e243 : pw_g h14 24 3 = pw_g h11 24 3 := pw_Eg (c := 24) h11I h14E rfl rfl 3
        have e244 : pw_g h14 24 4 = pw_g h11 24 4 := pw_Eg (c := 24) h11I h14E rfl rfl 4
        have hT2 : pw_g h14 25 = pw_g h 25 := (funext (fun j => pw_Eg (c := 25) h11I h14E rfl rfl j)).trans (hT1.trans hT0)
        refine pw_ist E (pc' := 34) (ls' := [some (.ref 42), some (.ref 40), some (.ref 46), some (pw_i k15_3), some (pw_i x16)]) rfl rfl rfl rfl ?_
        refine pw_ld E (pc' := 36) (st' := [pw_i x16]) rfl (fun _ => rfl) ?_
        refine pw_if E (pc' := 50) rfl (by decide) (by omega) (by omega) ?_ ?_
        · intro hc17
          change x16 = (0 : Int) at hc17
          refine pw_ld E (pc' := 51) (st' := [.ref 40]) rfl (fun _ => rfl) ?_
          obtain ⟨f18l, f18h, -⟩ := pw_obj (c := 24) h14I rfl
          refine pw_call (m' := 107) (As := [.ref 40]) (rest := []) (ls'' := [some (.ref 40)]) (Nat.le_trans (by decide) hd) E rfl (fun _ => pw_iV rfl rfl rfl rfl (pw_cellI f18h rfl)) (rfl : pm_ent 107 = some (1, 1, 9, 0, pmc_107)) rfl rfl (cm_107_x24 (pw_dp hd (by decide)) h14I ) ?_
          rintro u20 v19 ⟨rfl, x21, rfl, hx21a, hx21b, hx21r⟩
          refine ⟨_, rfl, ?_⟩
          show pw X d h14 44 54 [some (.ref 42), some (.ref 40), some (.ref 46), some (pw_i k15_3), some (pw_i x16)] [pw_i x21] _
          change x21 = pw_g h14 24 4 at hx21r
          refine pw_ld E (pc' := 55) (st' := [pw_i 4, pw_i x21]) rfl (fun _ => rfl) ?_
          refine pw_if2 E (pc' := 60) rfl (by decide) (by omega) (by omega) (by decide) (by decide) ?_ ?_
          · intro hc22
            change x21 ≠ (4 : Int) at hc22
            have hgo := (hx16r.resolve_left (fun q => q.1 (by omega))).resolve_left (fun q => hA6 (by omega) q.2.1)
            obtain ⟨hi4, hS4⟩ := hA4 hgo.2.1
            have hls4 := hgo.2.2
            rw [show (k15_3).toNat + 1 = (k15_3 + 1).toNat by omega] at hls4 hS4
            rw [← e243] at hS4
            refine pw_inc E (pc' := 63) (ls' := [some (.ref 42), some (.ref 40), some (.ref 46), some (pw_i (k15_3 + 1)), some (pw_i x16)]) rfl rfl rfl rfl ?_
            refine pw_goto E (pc' := 15) rfl (by decide) ?_
            exact ih15 _ (by omega) (k15_3 + 1) (some (pw_i x16)) h14 h14I h14F (by omega) (by omega) hls4 hS4 (by omega) (by omega) rfl
          · intro hc23
            change ¬ (x21 ≠ (4 : Int)) at hc23
            refine pw_ld E (pc' := 59) (st' := [pw_i 0]) rfl (fun _ => rfl) ?_
            refine pw_iret E rfl ?_
            obtain ⟨q0, qk, th, C, N, qR, qM, ql⟩ := (hx16r.resolve_left (fun q => q.1 (by omega))).resolve_right (fun q => q.2.1 (hA3 (by omega)))
            exact ⟨h14I, h14F, ⟨_, rfl, by omega, by omega, Or.inr ⟨rfl, th, C, N, qR, qM, by omega⟩⟩⟩
        · intro hc24
          change ¬ (x16 = (0 : Int)) at hc24
          refine pw_ld E (pc' := 41) (st' := [pw_i x16]) rfl (fun _ => rfl) ?_
          refine pw_bip E (pc' := 43) rfl rfl (by decide) ?_
          refine pw_ld E (pc' := 44) (st' := [.ref 40, pw_i 16, pw_i x16]) rfl (fun _ => rfl) ?_
          obtain ⟨f25l, f25h, -⟩ := pw_obj (c := 24) h14I rfl
          refine pw_call (m' := 111) (As := [.ref 40]) (rest := [pw_i 16, pw_i x16]) (ls'' := [some (.ref 40)]) (Nat.le_trans (by decide) hd) E rfl (fun _ => pw_iV rfl rfl rfl rfl (pw_cellI f25h rfl)) (rfl : pm_ent 111 = some (1, 1, 9, 0, pmc_111)) rfl rfl (cm_111_x24 (pw_dp hd (by decide)) h14I ) ?_
          rintro u27 v26 ⟨rfl, x28, rfl, hx28a, hx28b, hx28r⟩
          refine ⟨_, rfl, ?_⟩
          show pw X d h14 44 47 [some (.ref 42), some (.ref 40), some (.ref 46), some (pw_i k15_3), some (pw_i x16)] [pw_i x28, pw_i 16, pw_i x16] _
          change x28 = pw_g h14 24 2 at hx28r
          refine pw_mul E (pc' := 48) rfl rfl ?_
          refine pw_add E (pc' := 49) rfl rfl ?_
          refine pw_iret E rfl ?_
          have hf := (hx16r.resolve_right (fun q => by rcases q with q | q <;> (have := q.1; omega)))
          have hf2 := hf.2
          exact ⟨h14I, h14F, ⟨_, rfl, by omega, by omega, Or.inl ⟨by omega, by omega⟩⟩⟩
  have he29 : pw_g h7 24 1 = pw_g h5 24 1 := by rw [← h7w]; exact pw_g_ne (by omega)
  have he30 : pw_g h7 24 3 = pw_g h5 24 3 := by rw [← h7w]; exact pw_g_ne (by omega)
  exact L15 _ (0) (none) h7 h7I h7F (by omega) (by omega) zL zS (by omega) (by omega) rfl
set_option maxHeartbeats 4000000 in
theorem cm_45_x28 {X : List (Nat × List Value)} {d : Nat} {h : pm_H} (hd : 5 ≤ d) (I : pw_I h) (hX : pw_Xk X) (K V P : Nat → Int) (n : Nat) (RR : pt_TR) (i : Nat) (hp0 : pw_Xr X) (hp1 : pw_Xs X) (hp2 : pw_Xf X) (hp3 : px_LS 1 28 K V P n RR i h) (hp4 : px_TR (K i) (V i) h) (hp5 : n ≤ 1000) (hp6 : i ≤ n) (hp7 : K n = 0) (hp8 : ∀ j : Nat, 0 ≤ P j) : pw X d h 45 0 [some (.ref 44), some (.ref 40), some (.ref 46)] [] (fun h' v => pw_I h' ∧ pw_E [28, 29, 30, 31, 32, 33, 34, 36] h h' ∧ ∃ a : Int, v = .inl (some (pw_i a)) ∧ 0 ≤ a ∧ a ≤ 5 ∧ (px_LN 1 28 K V P n RR i h' a)) := by
  have E : pm_ent 45 = some (3, 3, 5, 0, pmc_45) := rfl
  have E0 : pw_E [28, 29, 30, 31, 32, 33, 34, 36] h h := pw_E.rf _ _
  have hXr := hp0
  have hXs := hp1
  have hXf := hp2
  have hLS := hp3
  have hTR := hp4
  have hk := hp4.k
  have w9 := px_wn9 (K i) (V i)
  have l0 := (pw_gI (c := 30) (k := 1) I rfl rfl).1
  refine pw_ld E (pc' := 1) (st' := [.ref 44]) rfl (fun _ => rfl) ?_
  refine pw_getI2 I E (c := 28) (k := 7) (pc' := 4) rfl rfl rfl rfl rfl rfl (fun hf1a hf1b => ?_)
  rcases (by omega : pw_g h 28 7 = 0 ∨ pw_g h 28 7 = 1 ∨ pw_g h 28 7 = 2 ∨ pw_g h 28 7 = 3 ∨ pw_g h 28 7 = 4 ∨ (pw_g h 28 7 < 0 ∨ 4 < pw_g h 28 7)) with hs2 | hs2 | hs2 | hs2 | hs2 | hs2
  · refine pw_tswJ (o := 36) E (pc' := 40) rfl (by omega) (by omega) (by omega) (by rw [hs2]; rfl) (by decide) ?_
    have hLE := hLS.c0 (by omega)
    refine pw_ld E (pc' := 41) (st' := [.ref 44]) rfl (fun _ => rfl) ?_
    refine pw_ld E (pc' := 42) (st' := [.ref 40, .ref 44]) rfl (fun _ => rfl) ?_
    refine pw_ld E (pc' := 43) (st' := [.ref 46, .ref 40, .ref 44]) rfl (fun _ => rfl) ?_
    obtain ⟨f3l, f3h, -⟩ := pw_obj (c := 28) I rfl
    refine pw_call (m' := 46) (As := [.ref 44, .ref 40, .ref 46]) (rest := []) (ls'' := [some (.ref 44), some (.ref 40), some (.ref 46), none]) (Nat.le_trans (by decide) hd) E rfl (fun _ => pw_iV rfl rfl rfl rfl (pw_cellI f3h rfl)) (rfl : pm_ent 46 = some (3, 4, 5, 0, pmc_46)) rfl rfl (cm_46_x28 (pw_dp hd (by decide)) I hX (K i) (V i) hTR hXs hXf) ?_
    rintro h4 v5 ⟨h4I, h4E, x6, rfl, hx6a, hx6b, hx6r⟩
    refine ⟨_, rfl, ?_⟩
    have h4F := E0.tr (h4E.wk (W' := [28, 29, 30, 31, 32, 33, 34, 36]) (by first | rfl | simp))
    show pw X d h4 45 46 [some (.ref 44), some (.ref 40), some (.ref 46)] [pw_i x6] _
    change px_Q46 1 28 (K i) (V i) h h4 x6 at hx6r
    refine pw_iret E rfl ?_
    exact ⟨h4I, h4F, ⟨_, rfl, by omega, by omega, px_L0 hLE hp6 hp8 l0 hx6r (pw_Eg (c := 30) I h4E rfl rfl 1) (pw_Eg (c := 34) I h4E rfl rfl) (pw_Eg (c := 36) I h4E rfl rfl)⟩⟩
  · refine pw_tswJ (o := 43) E (pc' := 47) rfl (by omega) (by omega) (by omega) (by rw [hs2]; rfl) (by decide) ?_
    obtain ⟨b, w, th, C, N, hLB, hb, hF, hZ⟩ := hLS.c1 (by omega)
    refine pw_ld E (pc' := 48) (st' := [.ref 44]) rfl (fun _ => rfl) ?_
    refine pw_ld E (pc' := 49) (st' := [pw_i 2, .ref 44]) rfl (fun _ => rfl) ?_
    refine pw_putI I E (c := 28) (k := 7) (pc' := 52) rfl rfl rfl rfl (by omega) (by omega) (by omega) (by omega) rfl rfl ?_
    intro h7I h7E
    generalize h7w : pw_w h 28 7 (pw_i 2) = h7 at h7I h7E ⊢
    have h7F := E0.tr (h7E.wk (W' := [28, 29, 30, 31, 32, 33, 34, 36]) (by first | rfl | simp))
    have hTR1 : px_TR (K i) (V i) h7 := hTR.eq (fun k => by rw [← h7w]; exact pw_g_ne (by omega)) (fun j => by rw [← h7w]; exact pw_g_ne (by omega))
    have t24 : pw_g h7 24 4 = pw_g h 24 4 := by rw [← h7w]; exact pw_g_ne (by omega)
    have t25 : pw_g h7 24 5 = pw_g h 24 5 := by rw [← h7w]; exact pw_g_ne (by omega)
    refine pw_ld E (pc' := 53) (st' := [.ref 40]) rfl (fun _ => rfl) ?_
    refine pw_ld E (pc' := 55) (st' := [.ref 9, .ref 40]) rfl (fun _ => rfl) ?_
    obtain ⟨f8l, f8h, -⟩ := pw_obj (c := 24) h7I rfl
    refine pw_call (m' := 108) (As := [.ref 40, .ref 9]) (rest := []) (ls'' := [some (.ref 40), some (.ref 9), none, none, none, none, none]) (Nat.le_trans (by decide) hd) E rfl (fun _ => pw_iV rfl rfl rfl rfl (pw_cellI f8h rfl)) (rfl : pm_ent 108 = some (2, 7, 9, 0, pmc_108)) rfl rfl (cm_108_w (pw_dp hd (by decide)) h7I hX 9 (by omega) (by omega) (K i) (V i) hTR1 hXs (by decide)) ?_
    rintro u10 v9 ⟨rfl, x11, rfl, hx11a, hx11b, hx11r⟩
    refine ⟨_, rfl, ?_⟩
    show pw X d h7 45 58 [some (.ref 44), some (.ref 40), some (.ref 46)] [pw_i x11] _
    change x11 = px_wn 9 (K i) (V i) at hx11r
    refine pw_if E (pc' := 65) rfl (by decide) (by omega) (by omega) ?_ ?_
    · intro hc12
      change x11 ≠ (0 : Int) at hc12
      refine pw_ld E (pc' := 66) (st' := [pw_i 1]) rfl (fun _ => rfl) ?_
      refine pw_iret E rfl ?_
      exact ⟨h7I, h7F, ⟨_, rfl, by omega, by omega, px_L1 hLB hb hF hZ hp8 l0 ⟨(by rw [← h7w]; exact pw_g_eq (c := 28) (k := 7) I rfl rfl (by omega) (by omega)), fun k hk => (by rw [← h7w]; exact pw_g_ne (fun q => hk q.2.symm)), (fun j => by rw [← h7w]; exact pw_g_ne (by omega)), (fun j => by rw [← h7w]; exact pw_g_ne (by omega)), (fun j => by rw [← h7w]; exact pw_g_ne (by omega)), (fun j => by rw [← h7w]; exact pw_g_ne (by omega)), (fun j => by rw [← h7w]; exact pw_g_ne (by omega))⟩ (fun j => by rw [← h7w]; exact pw_g_ne (by omega)) (by omega)⟩⟩
    · intro hc13
      change ¬ (x11 ≠ (0 : Int)) at hc13
      refine pw_ld E (pc' := 62) (st' := [pw_i 0]) rfl (fun _ => rfl) ?_
      refine pw_goto E (pc' := 66) rfl (by decide) ?_
      refine pw_iret E rfl ?_
      exact ⟨h7I, h7F, ⟨_, rfl, by omega, by omega, px_L1 hLB hb hF hZ hp8 l0 ⟨(by rw [← h7w]; exact pw_g_eq (c := 28) (k := 7) I rfl rfl (by omega) (by omega)), fun k hk => (by rw [← h7w]; exact pw_g_ne (fun q => hk q.2.symm)), (fun j => by rw [← h7w]; exact pw_g_ne (by omega)), (fun j => by rw [← h7w]; exact pw_g_ne (by omega)), (fun j => by rw [← h7w]; exact pw_g_ne (by omega)), (fun j => by rw [← h7w]; exact pw_g_ne (by omega)), (fun j => by rw [← h7w]; exact pw_g_ne (by omega))⟩ (fun j => by rw [← h7w]; exact pw_g_ne (by omega)) (by omega)⟩⟩
  · refine pw_tswJ (o := 63) E (pc' := 67) rfl (by omega) (by omega) (by omega) (by rw [hs2]; rfl) (by decide) ?_
    obtain ⟨b, w, th, C, N, hLB, hLX⟩ := hLS.cX (m := 0) (by omega) (by omega)
    have hIN := hLX.2.2.2.1
    have hp6k : i ≤ 1000 := by omega
    refine pw_ld E (pc' := 68) (st' := [.ref 44]) rfl (fun _ => rfl) ?_
    refine pw_ld E (pc' := 69) (st' := [.ref 40, .ref 44]) rfl (fun _ => rfl) ?_
    refine pw_ld E (pc' := 70) (st' := [.ref 46, .ref 40, .ref 44]) rfl (fun _ => rfl) ?_
    obtain ⟨f14l, f14h, -⟩ := pw_obj (c := 28) I rfl
    refine pw_call (m' := 47) (As := [.ref 44, .ref 40, .ref 46]) (rest := []) (ls'' := [some (.ref 44), some (.ref 40), some (.ref 46), none, none, none, none]) (Nat.le_trans (by decide) hd) E rfl (fun _ => pw_iV rfl rfl rfl rfl (pw_cellI f14h rfl)) (rfl : pm_ent 47 = some (3, 7, 5, 0, pmc_47)) rfl rfl (cm_47_x28 (pw_dp hd (by decide)) I hX (K i) (V i) (pw_g h 32 w.toNat) ((i : Int) - 1) hTR hXs hIN (by omega) (by omega)) ?_
    rintro h15 v16 ⟨h15I, h15E, x17, rfl, hx17a, hx17b, hx17r⟩
    refine ⟨_, rfl, ?_⟩
    have h15F := E0.tr (h15E.wk (W' := [28, 29, 30, 31, 32, 33, 34, 36]) (by first | rfl | simp))
    show pw X d h15 45 73 [some (.ref 44), some (.ref 40), some (.ref 46)] [pw_i x17] _
    change (x17 ≠ 0 ∧ (pt_es (pt_FF 1) (K i) (V i) (px_s 28 h (pw_g h 32 w.toNat) 0)).1 = x17) ∨ (x17 = 0 ∧ (pt_es (pt_FF 1) (K i) (V i) (px_s 28 h (pw_g h 32 w.toNat) 0)).1 = 0 ∧ px_PO 28 (pw_g h 32 w.toNat) (((i : Int) - 1) + 1) h h15 (pt_es (pt_FF 1) (K i) (V i) (px_s 28 h (pw_g h 32 w.toNat) 0)).2.1 (pt_es (pt_FF 1) (K i) (V i) (px_s 28 h (pw_g h 32 w.toNat) 0)).2) at hx17r
    refine pw_iret E rfl ?_
    exact ⟨h15I, h15F, ⟨_, rfl, by omega, by omega, px_L2 hLB hLX hp6k hp8 (by omega) (by omega) (pw_Eg (c := 31) I h15E rfl rfl) (pw_Eg (c := 32) I h15E rfl rfl) (pw_Eg (c := 34) I h15E rfl rfl) (hx17r.elim Or.inl (fun q => Or.inr (Or.inl q)))⟩⟩
  · refine pw_tswJ (o := 70) E (pc' := 74) rfl (by omega) (by omega) (by omega) (by rw [hs2]; rfl) (by decide) ?_
    obtain ⟨b, w, th, C, N, hLB, hLX⟩ := hLS.cX (m := 1) (by omega) (by omega)
    have hIN := hLX.2.2.2.1
    have hp6k : i ≤ 1000 := by omega
    have hn8 := hLX.2.2.1 rfl
    refine pw_ld E (pc' := 75) (st' := [.ref 44]) rfl (fun _ => rfl) ?_
    refine pw_ld E (pc' := 76) (st' := [.ref 40, .ref 44]) rfl (fun _ => rfl) ?_
    refine pw_ld E (pc' := 77) (st' := [.ref 46, .ref 40, .ref 44]) rfl (fun _ => rfl) ?_
    obtain ⟨f18l, f18h, -⟩ := pw_obj (c := 28) I rfl
    refine pw_call (m' := 50) (As := [.ref 44, .ref 40, .ref 46]) (rest := []) (ls'' := [some (.ref 44), some (.ref 40), some (.ref 46), none, none]) (Nat.le_trans (by decide) hd) E rfl (fun _ => pw_iV rfl rfl rfl rfl (pw_cellI f18h rfl)) (rfl : pm_ent 50 = some (3, 5, 5, 0, pmc_50)) rfl rfl (cm_50_x28 (pw_dp hd (by decide)) I hX (K i) (V i) (pw_g h 32 w.toNat) ((i : Int) - 1) hXr hTR hXs hIN (by omega) hn8) ?_
    rintro h19 v20 ⟨h19I, h19E, x21, rfl, hx21a, hx21b, hx21r⟩
    refine ⟨_, rfl, ?_⟩
    have h19F := E0.tr (h19E.wk (W' := [28, 29, 30, 31, 32, 33, 34, 36]) (by first | rfl | simp))
    show pw X d h19 45 80 [some (.ref 44), some (.ref 40), some (.ref 46)] [pw_i x21] _
    change (x21 ≠ 0 ∧ (pt_es (pt_FF 1) (K i) (V i) (px_s 28 h (pw_g h 32 w.toNat) 1)).1 = x21) ∨ (x21 = 0 ∧ (pt_es (pt_FF 1) (K i) (V i) (px_s 28 h (pw_g h 32 w.toNat) 1)).1 = 0 ∧ px_PO 28 (pw_g h 32 w.toNat) (((i : Int) - 1) + 1) h h19 (pt_es (pt_FF 1) (K i) (V i) (px_s 28 h (pw_g h 32 w.toNat) 1)).2.1 (pt_es (pt_FF 1) (K i) (V i) (px_s 28 h (pw_g h 32 w.toNat) 1)).2) ∨ (x21 = 0 ∧ (pt_es (pt_FF 1) (K i) (V i) (px_s 28 h (pw_g h 32 w.toNat) 1)).1 = 9 ∧ px_EN 28 (pw_g h 32 w.toNat) ((i : Int) - 1) h h19 (pt_es (pt_FF 1) (K i) (V i) (px_s 28 h (pw_g h 32 w.toNat) 1)).2) at hx21r
    refine pw_iret E rfl ?_
    exact ⟨h19I, h19F, ⟨_, rfl, by omega, by omega, px_L2 hLB hLX hp6k hp8 (by omega) (by omega) (pw_Eg (c := 31) I h19E rfl rfl) (pw_Eg (c := 32) I h19E rfl rfl) (pw_Eg (c := 34) I h19E rfl rfl) hx21r⟩⟩
  · refine pw_tswJ (o := 77) E (pc' := 81) rfl (by omega) (by omega) (by omega) (by rw [hs2]; rfl) (by decide) ?_
    obtain ⟨b, w, th, C, N, hLB, hb, hF, hZ⟩ := hLS.c4 (by omega)
    refine pw_ld E (pc' := 82) (st' := [.ref 44]) rfl (fun _ => rfl) ?_
    refine pw_ld E (pc' := 83) (st' := [.ref 40, .ref 44]) rfl (fun _ => rfl) ?_
    refine pw_ld E (pc' := 84) (st' := [.ref 46, .ref 40, .ref 44]) rfl (fun _ => rfl) ?_
    obtain ⟨f22l, f22h, -⟩ := pw_obj (c := 28) I rfl
    refine pw_call (m' := 56) (As := [.ref 44, .ref 40, .ref 46]) (rest := []) (ls'' := [some (.ref 44), some (.ref 40), some (.ref 46)]) (Nat.le_trans (by decide) hd) E rfl (fun _ => pw_iV rfl rfl rfl rfl (pw_cellI f22h rfl)) (rfl : pm_ent 56 = some (3, 3, 5, 0, pmc_56)) rfl rfl (cm_56_x28 (pw_dp hd (by decide)) I hX (K i) (V i) hTR hXs hXf) ?_
    rintro h23 v24 ⟨h23I, h23E, x25, rfl, hx25a, hx25b, hx25r⟩
    refine ⟨_, rfl, ?_⟩
    have h23F := E0.tr (h23E.wk (W' := [28, 29, 30, 31, 32, 33, 34, 36]) (by first | rfl | simp))
    show pw X d h23 45 87 [some (.ref 44), some (.ref 40), some (.ref 46)] [pw_i x25] _
    change px_Q56 1 28 (K i) (V i) h h23 x25 at hx25r
    refine pw_iret E rfl ?_
    exact ⟨h23I, h23F, ⟨_, rfl, by omega, by omega, px_L4 hLB hb hF hZ hp8 hx25r (pw_Eg (c := 30) I h23E rfl rfl) (pw_Eg (c := 31) I h23E rfl rfl) (pw_Eg (c := 32) I h23E rfl rfl) (pw_Eg (c := 33) I h23E rfl rfl) (pw_Eg (c := 36) I h23E rfl rfl)⟩⟩
  · refine pw_tswD E (pc' := 88) rfl (by omega) (by omega) hs2 (by decide) ?_
    obtain ⟨b, w, th, C, N, hLB, hb, hF, hZ, hk2, hv2, hn2⟩ := hLS.c5 (by omega)
    refine pw_ld E (pc' := 89) (st' := [.ref 44]) rfl (fun _ => rfl) ?_
    refine pw_ld E (pc' := 90) (st' := [pw_i 0, .ref 44]) rfl (fun _ => rfl) ?_
    refine pw_putI I E (c := 28) (k := 7) (pc' := 93) rfl rfl rfl rfl (by omega) (by omega) (by omega) (by omega) rfl rfl ?_
    intro h26I h26E
    generalize h26w : pw_w h 28 7 (pw_i 0) = h26 at h26I h26E ⊢
    have h26F := E0.tr (h26E.wk (W' := [28, 29, 30, 31, 32, 33, 34, 36]) (by first | rfl | simp))
    have hTR1 : px_TR (K i) (V i) h26 := hTR.eq (fun k => by rw [← h26w]; exact pw_g_ne (by omega)) (fun j => by rw [← h26w]; exact pw_g_ne (by omega))
    have t24 : pw_g h26 24 4 = pw_g h 24 4 := by rw [← h26w]; exact pw_g_ne (by omega)
    have t25 : pw_g h26 24 5 = pw_g h 24 5 := by rw [← h26w]; exact pw_g_ne (by omega)
    refine pw_ld E (pc' := 94) (st' := [.ref 40]) rfl (fun _ => rfl) ?_
    refine pw_bip E (pc' := 96) rfl rfl (by decide) ?_
    obtain ⟨f27l, f27h, -⟩ := pw_obj (c := 24) h26I rfl
    refine pw_call (m' := 109) (As := [.ref 40, pw_i 59]) (rest := []) (ls'' := [some (.ref 40), some (pw_i 59)]) (Nat.le_trans (by decide) hd) E rfl (fun _ => pw_iV rfl rfl rfl rfl (pw_cellI f27h rfl)) (rfl : pm_ent 109 = some (2, 2, 9, 1, pmc_109)) rfl rfl (cm_109_x24 (pw_dp hd (by decide)) h26I (59) (by omega) (by omega)) ?_
    rintro u29 v28 ⟨rfl, x30, rfl, hx30a, hx30b, hx30r⟩
    refine ⟨_, rfl, ?_⟩
    show pw X d h26 45 99 [some (.ref 44), some (.ref 40), some (.ref 46)] [pw_i x30] _
    change (x30 = 1 ∧ pw_g h26 24 4 = 3 ∧ pw_g h26 24 5 = 59) ∨ (x30 = 0 ∧ ¬ (pw_g h26 24 4 = 3 ∧ pw_g h26 24 5 = 59)) at hx30r
    rcases (by omega : x30 = 1 ∨ x30 = 0) with hb31 | hb31
    · skip
      refine pw_if E (pc' := 106) rfl (by decide) (by omega) (by omega) ?_ ?_
      · intro hc32
        change x30 = (0 : Int) at hc32
        exfalso; omega
      · intro hc33
        change ¬ (x30 = (0 : Int)) at hc33
        refine pw_ld E (pc' := 103) (st' := [pw_i 0]) rfl (fun _ => rfl) ?_
        refine pw_goto E (pc' := 107) rfl (by decide) ?_
        refine pw_iret E rfl ?_
        exact ⟨h26I, h26F, ⟨_, rfl, by omega, by omega, px_L5 hLB hb hF hZ hk2 hv2 hn2 hp8 l0 ⟨(by rw [← h26w]; exact pw_g_eq (c := 28) (k := 7) I rfl rfl (by omega) (by omega)), fun k hk => (by rw [← h26w]; exact pw_g_ne (fun q => hk q.2.symm)), (fun j => by rw [← h26w]; exact pw_g_ne (by omega)), (fun j => by rw [← h26w]; exact pw_g_ne (by omega)), (fun j => by rw [← h26w]; exact pw_g_ne (by omega)), (fun j => by rw [← h26w]; exact pw_g_ne (by omega)), (fun j => by rw [← h26w]; exact pw_g_ne (by omega))⟩ (fun j => by rw [← h26w]; exact pw_g_ne (by omega)) (by omega)⟩⟩
    · skip
      refine pw_if E (pc' := 106) rfl (by decide) (by omega) (by omega) ?_ ?_
      · intro hc35
        change x30 = (0 : Int) at hc35
        refine pw_ld E (pc' := 107) (st' := [pw_i 1]) rfl (fun _ => rfl) ?_
        refine pw_iret E rfl ?_
        exact ⟨h26I, h26F, ⟨_, rfl, by omega, by omega, px_L5 hLB hb hF hZ hk2 hv2 hn2 hp8 l0 ⟨(by rw [← h26w]; exact pw_g_eq (c := 28) (k := 7) I rfl rfl (by omega) (by omega)), fun k hk => (by rw [← h26w]; exact pw_g_ne (fun q => hk q.2.symm)), (fun j => by rw [← h26w]; exact pw_g_ne (by omega)), (fun j => by rw [← h26w]; exact pw_g_ne (by omega)), (fun j => by rw [← h26w]; exact pw_g_ne (by omega)), (fun j => by rw [← h26w]; exact pw_g_ne (by omega)), (fun j => by rw [← h26w]; exact pw_g_ne (by omega))⟩ (fun j => by rw [← h26w]; exact pw_g_ne (by omega)) (by omega)⟩⟩
      · intro hc36
        change ¬ (x30 = (0 : Int)) at hc36
        exfalso; omega
set_option maxHeartbeats 4000000 in
theorem cm_44_x28 {X : List (Nat × List Value)} {d : Nat} {h : pm_H} (hd : 6 ≤ d) (I : pw_I h) (hX : pw_Xk X) (L : List pt_tok) (hp0 : pw_Xr X) (hp1 : pw_Xs X) (hp2 : pw_Xf X) (hp3 : pt_sg (pw_g h 25) (pw_g h 24 1).toNat 0 L (pw_g h 24 1).toNat) : pw X d h 44 0 [some (.ref 44), some (.ref 40), some (.ref 46), none, none] [] (fun h' v => pw_I h' ∧ pw_E [24, 28, 29, 30, 31, 32, 33, 34, 36] h h' ∧ ∃ a : Int, v = .inl (some (pw_i a)) ∧ (-2147483648) ≤ a ∧ a ≤ 2147483647 ∧ ((a ≠ 0 ∧ (pt_TX 1 L (pw_g h 24 1).toNat).1 = a) ∨ (a = 0 ∧ ∃ (th : Int → Int) (C : Int → List Int) (N : Int → Int), pt_TX 1 L (pw_g h 24 1).toNat = (0, th, C, N) ∧ px_ML 1 h' th C N ∧ pw_g h' 30 1 ≤ 999))) := by
  have E : pm_ent 44 = some (3, 5, 5, 0, pmc_44) := rfl
  have E0 : pw_E [24, 28, 29, 30, 31, 32, 33, 34, 36] h h := pw_E.rf _ _
  have hXr := hp0
  have hXs := hp1
  have hXf := hp2
  have hz := pw_gI (c := 24) (k := 1) I rfl rfl
  have hln := hp3.len
  have hL : L.length ≤ 1000 := by omega
  have hKn : pt_K L L.length = 0 := by unfold pt_K; rw [pt_gt2 (Nat.le_refl _)]
  have hP0 : ∀ j : Nat, 0 ≤ pt_P L (pw_g h 24 1).toNat j := fun j => by unfold pt_P; split <;> omega
  refine pw_ld E (pc' := 1) (st' := [.ref 46]) rfl (fun _ => rfl) ?_
  obtain ⟨f1l, f1h, -⟩ := pw_obj (c := 30) I rfl
  refine pw_call (m' := 68) (As := [.ref 46]) (rest := []) (ls'' := [some (.ref 46), none]) (Nat.le_trans (by decide) hd) E rfl (fun _ => pw_iV rfl rfl rfl rfl (pw_cellI f1h rfl)) (rfl : pm_ent 68 = some (1, 2, 7, 4, pmc_68)) rfl rfl (cm_68_x (pw_dp hd (by decide)) I ) ?_
  rintro h2 v3 ⟨h2I, h2E, hqcl, rfl⟩
  refine ⟨_, rfl, ?_⟩
  have h2F := E0.tr (h2E.wk (W' := [24, 28, 29, 30, 31, 32, 33, 34, 36]) (by first | rfl | simp))
  show pw X d h2 44 4 [some (.ref 44), some (.ref 40), some (.ref 46), none, none] [] _
  refine pw_ld E (pc' := 5) (st' := [.ref 40]) rfl (fun _ => rfl) ?_
  obtain ⟨f4l, f4h, -⟩ := pw_obj (c := 24) h2I rfl
  refine pw_call (m' := 100) (As := [.ref 40]) (rest := []) (ls'' := [some (.ref 40)]) (Nat.le_trans (by decide) hd) E rfl (fun _ => pw_iV rfl rfl rfl rfl (pw_cellI f4h rfl)) (rfl : pm_ent 100 = some (1, 1, 9, 4, pmc_100)) rfl rfl (cm_100_x24 (pw_dp hd (by decide)) h2I ) ?_
  rintro h5 v6 ⟨h5I, h5E, hqrw, rfl⟩
  refine ⟨_, rfl, ?_⟩
  have h5F := h2F.tr (h5E.wk (W' := [24, 28, 29, 30, 31, 32, 33, 34, 36]) (by first | rfl | simp))
  show pw X d h5 44 8 [some (.ref 44), some (.ref 40), some (.ref 46), none, none] [] _
  refine pw_ld E (pc' := 9) (st' := [.ref 44]) rfl (fun _ => rfl) ?_
  refine pw_ld E (pc' := 10) (st' := [pw_i 0, .ref 44]) rfl (fun _ => rfl) ?_
  refine pw_putI h5I E (c := 28) (k := 7) (pc' := 13) rfl rfl rfl rfl (by omega) (by omega) (by omega) (by omega) rfl rfl ?_
  intro h7I h7E
  generalize h7w : pw_w h5 28 7 (pw_i 0) = h7 at h7I h7E ⊢
  have h7F := h5F.tr (h7E.wk (W' := [24, 28, 29, 30, 31, 32, 33, 34, 36]) (by first | rfl | simp))
  have z7 : pw_g h7 28 7 = 0 := by rw [← h7w]; exact pw_g_eq (c := 28) (k := 7) h5I rfl rfl (by omega) (by omega)
  have z1 : pw_g h7 30 1 = 0 := by rw [← h7w, pw_g_ne (by omega), pw_Eg (c := 30) h2I h5E rfl rfl 1]; exact hqcl.1
  have z31 : ∀ j : Nat, j < 4 → pw_g h7 31 j = 0 := fun j hj => by rw [← h7w, pw_g_ne (by omega), pw_Eg (c := 31) h2I h5E rfl rfl j]; exact hqcl.2 j hj
  have z243 : pw_g h7 24 3 = 0 := by rw [← h7w, pw_g_ne (by omega)]; exact hqrw.1
  have z241 : pw_g h7 24 1 = pw_g h 24 1 := by rw [← h7w, pw_g_ne (by omega), hqrw.2]; exact pw_Eg (c := 24) I h2E rfl rfl 1
  have zS : pt_sg (pw_g h 25) (pw_g h 24 1).toNat (pw_g h7 24 3).toNat (L.drop (0 : Int).toNat) (pw_g h 24 1).toNat := by rw [z243]; exact hp3
  have zL : px_LS 1 28 (pt_K L) (pt_V L) (pt_P L (pw_g h 24 1).toNat) L.length (pt_TX 1 L (pw_g h 24 1).toNat) (0 : Int).toNat h7 := px_LS0 z7 z1 z31
  refine pw_ld E (pc' := 14) (st' := [pw_i 0]) rfl (fun _ => rfl) ?_
  refine pw_istn E (pc' := 15) (ls' := [some (.ref 44), some (.ref 40), some (.ref 46), some (pw_i 0), none]) rfl rfl rfl rfl ?_
  have L15 : ∀ (n15 : Nat) (k15_3 : Int) (k15_4 : Option Value) (gh15 : pm_H), pw_I gh15 → pw_E [24, 28, 29, 30, 31, 32, 33, 34, 36] h gh15 → 0 ≤ k15_3 → k15_3 ≤ 1001 → px_LS 1 28 (pt_K L) (pt_V L) (pt_P L (pw_g h 24 1).toNat) L.length (pt_TX 1 L (pw_g h 24 1).toNat) (k15_3).toNat gh15 → pt_sg (pw_g h 25) (pw_g h 24 1).toNat (pw_g gh15 24 3).toNat (L.drop (k15_3).toNat) (pw_g h 24 1).toNat → pw_g gh15 24 1 = pw_g h 24 1 → (k15_3).toNat ≤ L.length → (1001 - k15_3).toNat = n15 → pw X d gh15 44 15 [some (.ref 44), some (.ref 40), some (.ref 46), some (pw_i k15_3), k15_4] [] (fun h' v => pw_I h' ∧ pw_E [24, 28, 29, 30, 31, 32, 33, 34, 36] h h' ∧ ∃ a : Int, v = .inl (some (pw_i a)) ∧ (-2147483648) ≤ a ∧ a ≤ 2147483647 ∧ ((a ≠ 0 ∧ (pt_TX 1 L (pw_g h 24 1).toNat).1 = a) ∨ (a = 0 ∧ ∃ (th : Int → Int) (C : Int → List Int) (N : Int → Int), pt_TX 1 L (pw_g h 24 1).toNat = (0, th, C, N) ∧ px_ML 1 h' th C N ∧ pw_g h' 30 1 ≤ 999))) := by
    intro n15
    induction n15 using Nat.strongRecOn with
    | ind n15 ih15 =>
      intro k15_3 k15_4 gh15 I15 E15 k15_3a k15_3b hx15_0 hx15_1 hx15_2 hx15_3 hm15
      refine pw_ld E (pc' := 16) (st' := [pw_i k15_3]) rfl (fun _ => rfl) ?_
      refine pw_sip E (pc' := 19) rfl rfl (by decide) ?_
      refine pw_if2 E (pc' := 66) rfl (by decide) (by omega) (by omega) (by decide) (by decide) ?_ ?_
      · intro hc8
        change (1000 : Int) < k15_3 at hc8
        refine pw_ld E (pc' := 67) (st' := [pw_i 0]) rfl (fun _ => rfl) ?_
        refine pw_iret E rfl ?_
        exfalso
        omega
      · intro hc9
        change ¬ ((1000 : Int) < k15_3) at hc9
        have hlen15 := hx15_1.len
        have hend15 := pw_gI (c := 24) (k := 3) I15 rfl rfl
        refine pw_ld E (pc' := 23) (st' := [.ref 40]) rfl (fun _ => rfl) ?_
        obtain ⟨f10l, f10h, -⟩ := pw_obj (c := 24) I15 rfl
        refine pw_call (m' := 101) (As := [.ref 40]) (rest := []) (ls'' := [some (.ref 40)]) (Nat.le_trans (by decide) hd) E rfl (fun _ => pw_iV rfl rfl rfl rfl (pw_cellI f10h rfl)) (rfl : pm_ent 101 = some (1, 1, 9, 4, pmc_101)) rfl rfl (cm_101_x24 (pw_dp hd (by decide)) I15 hX hXs (by omega)) ?_
        rintro h11 v12 ⟨h11I, h11E, hqad, rfl⟩
        refine ⟨_, rfl, ?_⟩
        have h11F := E15.tr (h11E.wk (W' := [24, 28, 29, 30, 31, 32, 33, 34, 36]) (by first | rfl | simp))
        show pw X d h11 44 26 [some (.ref 44), some (.ref 40), some (.ref 46), some (pw_i k15_3), k15_4] [] _
        have hT0 : pw_g gh15 25 = pw_g h 25 := funext (fun j => pw_Eg (c := 25) I E15 rfl rfl j)
        have hz1 : pw_g gh15 24 1 = pw_g h 24 1 := hx15_2
        have hT1 : pw_g h11 25 = pw_g gh15 25 := funext (fun j => pw_Eg (c := 25) I15 h11E rfl rfl j)
        have hSg := hx15_1
        rw [← hT0, ← hz1] at hSg
        obtain ⟨hA1, hA2, hA3, hA4, hA5, hA6⟩ := px_adv hqad hT1 (by omega) (by omega) hSg
        rw [hT0, hz1] at hA4
        rw [hz1] at hA2 hA5
        have hz2 : pw_g h11 24 1 = pw_g h 24 1 := hqad.1.trans hz1
        have hLS2 : px_LS 1 28 (pt_K L) (pt_V L) (pt_P L (pw_g h 24 1).toNat) L.length (pt_TX 1 L (pw_g h 24 1).toNat) (k15_3).toNat h11 := hx15_0.eq (pw_Eg (c := 28) I15 h11E rfl rfl) (pw_Eg (c := 29) I15 h11E rfl rfl) (pw_Eg (c := 30) I15 h11E rfl rfl) (pw_Eg (c := 31) I15 h11E rfl rfl) (pw_Eg (c := 32) I15 h11E rfl rfl) (pw_Eg (c := 33) I15 h11E rfl rfl) (pw_Eg (c := 34) I15 h11E rfl rfl) (pw_Eg (c := 36) I15 h11E rfl rfl)
        refine pw_ld E (pc' := 27) (st' := [.ref 44]) rfl (fun _ => rfl) ?_
        refine pw_ld E (pc' := 28) (st' := [.ref 40, .ref 44]) rfl (fun _ => rfl) ?_
        refine pw_ld E (pc' := 29) (st' := [.ref 46, .ref 40, .ref 44]) rfl (fun _ => rfl) ?_
        obtain ⟨f13l, f13h, -⟩ := pw_obj (c := 28) h11I rfl
        refine pw_call (m' := 45) (As := [.ref 44, .ref 40, .ref 46]) (rest := []) (ls'' := [some (.ref 44), some (.ref 40), some (.ref 46)]) (Nat.le_trans (by decide) hd) E rfl (fun _ => pw_iV rfl rfl rfl rfl (pw_cellI f13h rfl)) (rfl : pm_ent 45 = some (3, 3, 5, 0, pmc_45)) rfl rfl (cm_45_x28 (pw_dp hd (by decide)) h11I hX (pt_K L) (pt_V L) (pt_P L (pw_g h 24 1).toNat) L.length (pt_TX 1 L (pw_g h 24 1).toNat) (k15_3).toNat hXr hXs hXf hLS2 hA1 (by omega) (by omega) hKn hP0) ?_
        rintro h14 v15 ⟨h14I, h14E, x16, rfl, hx16a, hx16b, hx16r⟩
        refine ⟨_, rfl, ?_⟩
        have h14F := h11F.tr (h14E.wk (W' := [24, 28, 29, 30, 31, 32, 33, 34, 36]) (by first | rfl | simp))
        show pw X d h14 44 32 [some (.ref 44), some (.ref 40), some (.ref 46), some (pw_i k15_3), k15_4] [pw_i x16] _
        change px_LN 1 28 (pt_K L) (pt_V L) (pt_P L (pw_g h 24 1).toNat) L.length (pt_TX 1 L (pw_g h 24 1).toNat) (k15_3).toNat h14 x16 at hx16r
        have e241 : pw_g h14 24 1 = pw_g h11 24 1 := pw_Eg (c := 24) h11I h14E rfl rfl 1
        have e242 : pw_g h14 24 2 = pw_g h11 24 2 := pw_Eg (c := 24) h11I h14E rfl rfl 2
        have e243 : pw_g h14 24 3 = pw_g h11 24 3 := pw_Eg (c := 24) h11I h14E rfl rfl 3
        have e244 : pw_g h14 24 4 = pw_g h11 24 4 := pw_Eg (c := 24) h11I h14E rfl rfl 4
        have hT2 : pw_g h14 25 = pw_g h 25 := (funext (fun j => pw_Eg (c := 25) h11I h14E rfl rfl j)).trans (hT1.trans hT0)
        refine pw_ist E (pc' := 34) (ls' := [some (.ref 44), some (.ref 40), some (.ref 46), some (pw_i k15_3), some (pw_i x16)]) rfl rfl rfl rfl ?_
        refine pw_ld E (pc' := 36) (st' := [pw_i x16]) rfl (fun _ => rfl) ?_
        refine pw_if E (pc' := 50) rfl (by decide) (by omega) (by omega) ?_ ?_
        · intro hc17
          change x16 = (0 : Int) at hc17
          refine pw_ld E (pc' := 51) (st' := [.ref 40]) rfl (fun _ => rfl) ?_
          obtain ⟨f18l, f18h, -⟩ := pw_obj (c := 24) h14I rfl
          refine pw_call (m' := 107) (As := [.ref 40]) (rest := []) (ls'' := [some (.ref 40)]) (Nat.le_trans (by decide) hd) E rfl (fun _ => pw_iV rfl rfl rfl rfl (pw_cellI f18h rfl)) (rfl : pm_ent 107 = some (1, 1, 9, 0, pmc_107)) rfl rfl (cm_107_x24 (pw_dp hd (by decide)) h14I ) ?_
          rintro u20 v19 ⟨rfl, x21, rfl, hx21a, hx21b, hx21r⟩
          refine ⟨_, rfl, ?_⟩
          show pw X d h14 44 54 [some (.ref 44), some (.ref 40), some (.ref 46), some (pw_i k15_3), some (pw_i x16)] [pw_i x21] _
          change x21 = pw_g h14 24 4 at hx21r
          refine pw_ld E (pc' := 55) (st' := [pw_i 4, pw_i x21]) rfl (fun _ => rfl) ?_
          refine pw_if2 E (pc' := 60) rfl (by decide) (by omega) (by omega) (by decide) (by decide) ?_ ?_
          · intro hc22
            change x21 ≠ (4 : Int) at hc22
            have hgo := (hx16r.resolve_left (fun q => q.1 (by omega))).resolve_left (fun q => hA6 (by omega) q.2.1)
            obtain ⟨hi4, hS4⟩ := hA4 hgo.2.1
            have hls4 := hgo.2.2
            rw [show (k15_3).toNat + 1 = (k15_3 + 1).toNat by omega] at hls4 hS4
            rw [← e243] at hS4
            refine pw_inc E (pc' := 63) (ls' := [some (.ref 44), some (.ref 40), some (.ref 46), some (pw_i (k15_3 + 1)), some (pw_i x16)]) rfl rfl rfl rfl ?_
            refine pw_goto E (pc' := 15) rfl (by decide) ?_
            exact ih15 _ (by omega) (k15_3 + 1) (some (pw_i x16)) h14 h14I h14F (by omega) (by omega) hls4 hS4 (by omega) (by omega) rfl
          · intro hc23
            change ¬ (x21 ≠ (4 : Int)) at hc23
            refine pw_ld E (pc' := 59) (st' := [pw_i 0]) rfl (fun _ => rfl) ?_
            refine pw_iret E rfl ?_
            obtain ⟨q0, qk, th, C, N, qR, qM, ql⟩ := (hx16r.resolve_left (fun q => q.1 (by omega))).resolve_right (fun q => q.2.1 (hA3 (by omega)))
            exact ⟨h14I, h14F, ⟨_, rfl, by omega, by omega, Or.inr ⟨rfl, th, C, N, qR, qM, by omega⟩⟩⟩
        · intro hc24
          change ¬ (x16 = (0 : Int)) at hc24
          refine pw_ld E (pc' := 41) (st' := [pw_i x16]) rfl (fun _ => rfl) ?_
          refine pw_bip E (pc' := 43) rfl rfl (by decide) ?_
          refine pw_ld E (pc' := 44) (st' := [.ref 40, pw_i 16, pw_i x16]) rfl (fun _ => rfl) ?_
          obtain ⟨f25l, f25h, -⟩ := pw_obj (c := 24) h14I rfl
          refine pw_call (m' := 111) (As := [.ref 40]) (rest := [pw_i 16, pw_i x16]) (ls'' := [some (.ref 40)]) (Nat.le_trans (by decide) hd) E rfl (fun _ => pw_iV rfl rfl rfl rfl (pw_cellI f25h rfl)) (rfl : pm_ent 111 = some (1, 1, 9, 0, pmc_111)) rfl rfl (cm_111_x24 (pw_dp hd (by decide)) h14I ) ?_
          rintro u27 v26 ⟨rfl, x28, rfl, hx28a, hx28b, hx28r⟩
          refine ⟨_, rfl, ?_⟩
          show pw X d h14 44 47 [some (.ref 44), some (.ref 40), some (.ref 46), some (pw_i k15_3), some (pw_i x16)] [pw_i x28, pw_i 16, pw_i x16] _
          change x28 = pw_g h14 24 2 at hx28r
          refine pw_mul E (pc' := 48) rfl rfl ?_
          refine pw_add E (pc' := 49) rfl rfl ?_
          refine pw_iret E rfl ?_
          have hf := (hx16r.resolve_right (fun q => by rcases q with q | q <;> (have := q.1; omega)))
          have hf2 := hf.2
          exact ⟨h14I, h14F, ⟨_, rfl, by omega, by omega, Or.inl ⟨by omega, by omega⟩⟩⟩
  have he29 : pw_g h7 24 1 = pw_g h5 24 1 := by rw [← h7w]; exact pw_g_ne (by omega)
  have he30 : pw_g h7 24 3 = pw_g h5 24 3 := by rw [← h7w]; exact pw_g_ne (by omega)
  exact L15 _ (0) (none) h7 h7I h7F (by omega) (by omega) zL zS (by omega) (by omega) rfl
end
section
/-! texts: the tape, sign by sign; every tape has its tokens -/
theorem pt_run {p : Int → Prop} {T : Nat → Int} {z : Nat} : ∀ (m k : Nat), z - k ≤ m → k < z → p (T k) → ∃ e : Nat, k < e ∧ e ≤ z ∧ (∀ j : Nat, k ≤ j → j < e → p (T j)) ∧ (e < z → ¬ p (T e)) := by
  intro m
  induction m with
  | zero => intro k h1 h2 _; exfalso; omega
  | succ m ih =>
    intro k h1 h2 h3
    by_cases q : k + 1 < z ∧ p (T (k + 1))
    · obtain ⟨e, a, b, c, d⟩ := ih (k + 1) (by omega) q.1 q.2
      refine ⟨e, by omega, b, fun j j1 j2 => ?_, d⟩
      by_cases w : j = k
      · rw [w]; exact h3
      · exact c j (by omega) j2
    · refine ⟨k + 1, by omega, by omega, fun j j1 j2 => ?_, fun w v => q ⟨w, v⟩⟩
      rw [show j = k by omega]
      exact h3
theorem pt_sg_bl1 {T : Nat → Int} {z k e : Nat} {L : List pt_tok} (b : pt_bl (T k)) (h : pt_sg T z (k + 1) L e) : pt_sg T z k L e := by
  have g : ∀ (s : Nat), k + 1 ≤ s → (∀ j : Nat, k + 1 ≤ j → j < s → pt_bl (T j)) → k ≤ s ∧ ∀ j : Nat, k ≤ j → j < s → pt_bl (T j) := fun s h1 h2 => ⟨by omega, fun j j1 j2 => by
    by_cases w : j = k
    · rw [w]; exact b
    · exact h2 j (by omega) j2⟩
  cases L with
  | nil => exact g e h.1 h.2
  | cons t L => exact ⟨g t.1 h.1.1 h.1.2, h.2⟩
theorem pt_sg_ex1 (T : Nat → Int) (z : Nat) : ∀ (m k : Nat), z - k ≤ m → k ≤ z → ∃ L : List pt_tok, pt_sg T z k L z := by
  intro m
  induction m with
  | zero =>
    intro k h1 h2
    exact ⟨[], by omega, fun j j1 j2 => by omega⟩
  | succ m ih =>
    intro k h1 h2
    by_cases q : k = z
    · exact ⟨[], by omega, fun j j1 j2 => by omega⟩
    have nil : k ≤ k ∧ ∀ j : Nat, k ≤ j → j < k → pt_bl (T j) := ⟨Nat.le_refl _, fun j j1 j2 => by omega⟩
    by_cases b : pt_bl (T k)
    · obtain ⟨L, hL⟩ := ih (k + 1) (by omega) (by omega)
      exact ⟨L, pt_sg_bl1 b hL⟩
    by_cases l : pt_le (T k)
    · obtain ⟨e, e1, e2, e3, e4⟩ := pt_run (p := pt_le) (T := T) (z := z) (z - k) k (Nat.le_refl _) (by omega) l
      obtain ⟨L, hL⟩ := ih e (by omega) e2
      exact ⟨(k, e, (if 8 < e - k then (4 : Int) else 1), pt_hw T k (min 8 (e - k))) :: L, nil, pt_taW e1 e2 e3 e4 (fun w => if_pos w) (fun w => if_neg (by omega)) rfl, hL⟩
    by_cases d : pt_di (T k)
    · obtain ⟨e, e1, e2, e3, e4⟩ := pt_run (p := pt_di) (T := T) (z := z) (z - k) k (Nat.le_refl _) (by omega) d
      obtain ⟨L, hL⟩ := ih e (by omega) e2
      exact ⟨(k, e, (if 4 < e - k then (4 : Int) else 2), pt_hd T k (min 4 (e - k))) :: L, nil, pt_taN e1 e2 e3 e4 (fun w => if_pos w) (fun w => if_neg (by omega)) rfl, hL⟩
    · obtain ⟨L, hL⟩ := ih (k + 1) (by omega) (by omega)
      by_cases s : pt_si (T k)
      · exact ⟨(k, k + 1, 3, T k) :: L, nil, pt_taS rfl (by omega) b l d (fun _ => rfl) (fun w => absurd s w) rfl, hL⟩
      · exact ⟨(k, k + 1, 4, T k) :: L, nil, pt_taS rfl (by omega) b l d (fun w => absurd w s) (fun _ => rfl) rfl, hL⟩
theorem pt_sg_ex (T : Nat → Int) (z : Nat) : ∃ L : List pt_tok, pt_sg T z 0 L z := pt_sg_ex1 T z z 0 (Nat.le_refl _) (Nat.zero_le _)
/-- only the signs there are matter -/
theorem pt_hw_cg {T T' : Nat → Int} {s : Nat} : ∀ n : Nat, (∀ j : Nat, j < n → T (s + j) = T' (s + j)) → pt_hw T s n = pt_hw T' s n := by
  intro n
  induction n with
  | zero => intro _; rfl
  | succ n ih =>
    intro H
    show 37 * pt_hw T s n + (T (s + n) - 96) = 37 * pt_hw T' s n + (T' (s + n) - 96)
    rw [ih (fun j hj => H j (by omega)), H n (by omega)]
theorem pt_hd_cg {T T' : Nat → Int} {s : Nat} : ∀ n : Nat, (∀ j : Nat, j < n → T (s + j) = T' (s + j)) → pt_hd T s n = pt_hd T' s n := by
  intro n
  induction n with
  | zero => intro _; rfl
  | succ n ih =>
    intro H
    show 10 * pt_hd T s n + (T (s + n) - 48) = 10 * pt_hd T' s n + (T' (s + n) - 48)
    rw [ih (fun j hj => H j (by omega)), H n (by omega)]
theorem pt_ta.cg {T T' : Nat → Int} {z : Nat} {t : pt_tok} (H : ∀ j : Nat, j < z → T j = T' j) (h : pt_ta T z t) : pt_ta T' z t := by
  obtain ⟨h1, h2, h3, h4⟩ := h
  have e0 := H t.1 (by omega)
  refine ⟨h1, h2, by rw [← e0]; exact h3, ?_⟩
  rcases h4 with ⟨a1, a2, a3, a4, a5, a6⟩ | ⟨a1, a2, a3, a4, a5, a6⟩ | ⟨a1, a2, a3, a4, a5, a6⟩
  · refine Or.inl ⟨by rw [← e0]; exact a1, fun j p q => by rw [← H j (by omega)]; exact a2 j p q, fun q => by rw [← H _ q]; exact a3 q, a4, a5, a6.trans (pt_hw_cg _ (fun j hj => H _ (by omega)))⟩
  · refine Or.inr (Or.inl ⟨by rw [← e0]; exact a1, fun j p q => by rw [← H j (by omega)]; exact a2 j p q, fun q => by rw [← H _ q]; exact a3 q, a4, a5, a6.trans (pt_hd_cg _ (fun j hj => H _ (by omega)))⟩)
  · rw [e0] at a1 a2 a4 a5 a6
    exact Or.inr (Or.inr ⟨a1, a2, a3, a4, a5, a6⟩)
theorem pt_sg.cg {T T' : Nat → Int} {z e : Nat} (H : ∀ j : Nat, j < z → T j = T' j) (he : e ≤ z) : ∀ {L : List pt_tok} {k : Nat}, pt_sg T z k L e → pt_sg T' z k L e
  | [], _, h => ⟨h.1, fun j p q => by rw [← H j (by omega)]; exact h.2 j p q⟩
  | t :: _, _, h => ⟨⟨h.1.1, fun j p q => by have l := h.2.1.1; have l2 := h.2.1.2.1; rw [← H j (by omega)]; exact h.1.2 j p q⟩, h.2.1.cg H, pt_sg.cg H he h.2.2⟩
/-- a sign behind the tape -/
def pb_ac (c : Int) (s : Int × (Nat → Int)) : Int × (Nat → Int) := if (c = 10 ∨ (32 ≤ c ∧ c ≤ 126)) ∧ s.1 < 1000 then (s.1 + 1, fun k => if k = s.1.toNat then c else s.2 k) else s
def pb_fd (f : Int64 → Int → Int) (w : Int64) : Nat → Int × (Nat → Int) → Int × (Nat → Int)
  | 0, s => s
  | j + 1, s => pb_ac (f w (56 - 8 * (j : Int))) (pb_fd f w j s)
theorem pb_fdS (f : Int64 → Int → Int) (w : Int64) (j : Nat) (s : Int × (Nat → Int)) : pb_fd f w (j + 1) s = pb_ac (f w (56 - 8 * (j : Int))) (pb_fd f w j s) := rfl
theorem pb_fd_cg {f g : Int64 → Int → Int} {w : Int64} (hfg : ∀ j : Nat, j < 8 → f w (56 - 8 * (j : Int)) = g w (56 - 8 * (j : Int))) : ∀ (j : Nat) (s : Int × (Nat → Int)), j ≤ 8 → pb_fd f w j s = pb_fd g w j s := by
  intro j
  induction j with
  | zero => intro s _; rfl
  | succ j ih =>
    intro s hj
    rw [pb_fdS, pb_fdS, ih s (by omega), hfg j (by omega)]
theorem pb_fd_eq (w : Int64) (s : Int × (Nat → Int)) : pb_fd pw_b97 w 8 s = pb_fd pw_b199 w 8 s := pb_fd_cg (pw_b_eq w) 8 s (Nat.le_refl 8)
def pb_c (h : pm_H) : Int × (Nat → Int) := (pw_g h 24 1, pw_g h 25)
def pb_m (h : pm_H) : Int × (Nat → Int) := (pw_g h 125 2, pw_g h 126)
/-- the same signs -/
def pb_A (s t : Int × (Nat → Int)) : Prop := s.1 = t.1 ∧ ∀ k : Nat, (k : Int) < s.1 → s.2 k = t.2 k
theorem pb_A.ac {s t : Int × (Nat → Int)} (H : pb_A s t) (c : Int) : pb_A (pb_ac c s) (pb_ac c t) := by
  obtain ⟨s1, s2⟩ := s
  obtain ⟨t1, t2⟩ := t
  obtain ⟨e, a⟩ := H
  have e : s1 = t1 := e
  subst e
  unfold pb_ac
  by_cases q : (c = 10 ∨ (32 ≤ c ∧ c ≤ 126)) ∧ s1 < 1000
  · rw [if_pos q, if_pos q]
    refine ⟨rfl, fun k hk => ?_⟩
    have hk : (k : Int) < s1 + 1 := hk
    show (if k = s1.toNat then c else s2 k) = (if k = s1.toNat then c else t2 k)
    by_cases z : k = s1.toNat
    · rw [if_pos z, if_pos z]
    · rw [if_neg z, if_neg z]
      exact a k (by show (k : Int) < s1; omega)
  · rw [if_neg q, if_neg q]
    exact ⟨rfl, a⟩
theorem pb_A.fd {s t : Int × (Nat → Int)} (H : pb_A s t) (f : Int64 → Int → Int) (w : Int64) : ∀ j : Nat, pb_A (pb_fd f w j s) (pb_fd f w j t)
  | 0 => H
  | j + 1 => (pb_A.fd H f w j).ac _
end
section
/-! the tape, sign by sign -/
set_option maxHeartbeats 4000000 in
theorem cm_97_b {X : List (Nat × List Value)} {d : Nat} {h : pm_H} (hd : 2 ≤ d) (I : pw_I h) (e8 : Int64) : pw X d h 97 0 [some (.ref 40), some (.long e8), none, none, none, none] [] (fun h' v => pw_I h' ∧ pw_E [24, 25] h h' ∧ (pb_c h' = pb_fd pw_b97 e8 8 (pb_c h)) ∧ (v = .inl none)) := by
  have E : pm_ent 97 = some (2, 6, 9, 4, pmc_97) := rfl
  have E0 : pw_E [24, 25] h h := pw_E.rf _ _
  refine pw_bip E (pc' := 2) rfl rfl (by decide) ?_
  refine pw_istn E (pc' := 3) (ls' := [some (.ref 40), some (.long e8), none, some (pw_i 56), none, none]) rfl rfl rfl rfl ?_
  have L3 : ∀ (n3 : Nat) (k3_3 : Int) (k3_4 : Option Value) (k3_5 : Option Value) (h3 : pm_H), pw_I h3 → pw_E [24, 25] h h3 → (-8) ≤ k3_3 → k3_3 ≤ 56 → (∃ j : Nat, j ≤ 8 ∧ k3_3 = 56 - 8 * (j : Int) ∧ pb_c h3 = pb_fd pw_b97 e8 j (pb_c h)) → (k3_3 + 8).toNat = n3 → pw X d h3 97 3 [some (.ref 40), some (.long e8), none, some (pw_i k3_3), k3_4, k3_5] [] (fun h' v => pw_I h' ∧ pw_E [24, 25] h h' ∧ (pb_c h' = pb_fd pw_b97 e8 8 (pb_c h)) ∧ (v = .inl none)) := by
    intro n3
    induction n3 using Nat.strongRecOn with
    | ind n3 ih3 =>
      intro k3_3 k3_4 k3_5 h3 I3 E3 k3_3a k3_3b hx3_0 hm3
      refine pw_ld E (pc' := 4) (st' := [pw_i k3_3]) rfl (fun _ => rfl) ?_
      obtain ⟨j, hj1, hj2, hj3⟩ := hx3_0
      refine pw_if E (pc' := 86) rfl (by decide) (by omega) (by omega) ?_ ?_
      · intro hc1
        change k3_3 < (0 : Int) at hc1
        refine pw_vret E rfl ?_
        exact ⟨I3, E3, ⟨(by rw [show j = 8 by omega] at hj3; exact hj3), rfl⟩⟩
      · intro hc2
        change ¬ (k3_3 < (0 : Int)) at hc2
        refine pw_ld E (pc' := 8) (st' := [.long e8]) rfl (fun _ => rfl) ?_
        refine pw_ld E (pc' := 9) (st' := [pw_i k3_3, .long e8]) rfl (fun _ => rfl) ?_
        refine pw_ld E (pc' := 10) (st' := [.long ((Int64.toUInt64 e8 >>> ((Int32.ofInt k3_3).toInt64.toUInt64 &&& Int64.toUInt64 63)).toInt64)]) rfl (fun _ => rfl) ?_
        refine pw_ld E (pc' := 13) (st' := [.long (Int64.ofNat 255), .long ((Int64.toUInt64 e8 >>> ((Int32.ofInt k3_3).toInt64.toUInt64 &&& Int64.toUInt64 63)).toInt64)]) rfl (fun _ => rfl) ?_
        refine pw_ld E (pc' := 14) (st' := [.long (((Int64.toUInt64 e8 >>> ((Int32.ofInt k3_3).toInt64.toUInt64 &&& Int64.toUInt64 63)).toInt64) &&& (Int64.ofNat 255))]) rfl (fun _ => rfl) ?_
        refine pw_l2iX E (pc' := 15) rfl rfl (fun x3 hx3a hx3b hx3c => ?_)
        refine pw_ist E (pc' := 17) (ls' := [some (.ref 40), some (.long e8), none, some (pw_i k3_3), some (pw_i x3), k3_5]) rfl rfl rfl rfl ?_
        have hby : pw_b97 e8 (56 - 8 * (j : Int)) = x3 := by rw [← hj2]; exact hx3c.symm
        refine pw_ld E (pc' := 19) (st' := [pw_i x3]) rfl (fun _ => rfl) ?_
        refine pw_bip E (pc' := 21) rfl rfl (by decide) ?_
        refine pw_if2 E (pc' := 36) rfl (by decide) (by omega) (by omega) (by decide) (by decide) ?_ ?_
        · intro hc4
          change x3 = (10 : Int) at hc4
          refine pw_ld E (pc' := 37) (st' := [pw_i 1]) rfl (fun _ => rfl) ?_
          refine pw_goto E (pc' := 41) rfl (by decide) ?_
          refine pw_ist E (pc' := 43) (ls' := [some (.ref 40), some (.long e8), none, some (pw_i k3_3), some (pw_i x3), some (pw_i 1)]) rfl rfl rfl rfl ?_
          refine pw_ld E (pc' := 45) (st' := [pw_i 1]) rfl (fun _ => rfl) ?_
          refine pw_if E (pc' := 80) rfl (by decide) (by decide) (by decide) ?_ ?_
          · intro hc5
            change (1 : Int) = (0 : Int) at hc5
            exfalso; omega
          · intro hc6
            change ¬ ((1 : Int) = (0 : Int)) at hc6
            refine pw_ld E (pc' := 49) (st' := [.ref 40]) rfl (fun _ => rfl) ?_
            refine pw_getI2 I3 E (c := 24) (k := 1) (pc' := 52) rfl rfl rfl rfl rfl rfl (fun hf7a hf7b => ?_)
            refine pw_sip E (pc' := 55) rfl rfl (by decide) ?_
            refine pw_if2 E (pc' := 80) rfl (by decide) (by omega) (by omega) (by decide) (by decide) ?_ ?_
            · intro hc8
              change (1000 : Int) ≤ pw_g h3 24 1 at hc8
              refine pw_inc E (pc' := 83) (ls' := [some (.ref 40), some (.long e8), none, some (pw_i (k3_3 + (-8))), some (pw_i x3), some (pw_i 1)]) rfl rfl rfl rfl ?_
              have oB : ∃ j : Nat, j ≤ 8 ∧ k3_3 + (-8) = 56 - 8 * (j : Int) ∧ pb_c h3 = pb_fd pw_b97 e8 j (pb_c h) := ⟨j + 1, by omega, by omega, by
                have e : ¬ ((x3 = 10 ∨ (32 ≤ x3 ∧ x3 ≤ 126)) ∧ pw_g h3 24 1 < 1000) := by omega
                rw [pb_fdS, ← hj3, hby]
                exact (if_neg e).symm⟩
              refine pw_goto E (pc' := 3) rfl (by decide) ?_
              exact ih3 _ (by omega) (k3_3 + (-8)) (some (pw_i x3)) (some (pw_i 1)) h3 I3 E3 (by omega) (by omega) oB rfl
            · intro hc9
              change ¬ ((1000 : Int) ≤ pw_g h3 24 1) at hc9
              refine pw_ld E (pc' := 59) (st' := [.ref 40]) rfl (fun _ => rfl) ?_
              refine pw_getR (b := 41) I3 E (c := 24) (k := 0) (pc' := 62) rfl rfl rfl rfl rfl rfl rfl ?_
              refine pw_ld E (pc' := 63) (st' := [.ref 40, .ref 41]) rfl (fun _ => rfl) ?_
              refine pw_getI2 I3 E (c := 24) (k := 1) (pc' := 66) rfl rfl rfl rfl rfl rfl (fun hf10a hf10b => ?_)
              refine pw_ld E (pc' := 68) (st' := [pw_i x3, pw_i (pw_g h3 24 1), .ref 41]) rfl (fun _ => rfl) ?_
              refine pw_i2c E (pc' := 69) rfl rfl (by omega) (by omega) ?_
              refine pw_ast0 I3 E (c := 25) (pc' := 70) rfl rfl rfl (by decide) rfl (by decide) (by omega) (by omega) (pw_c16 (by omega) (by omega)) (by omega) (by omega) (by omega) (by omega) rfl ?_
              intro h11I h11E
              generalize h11w : pw_w h3 25 ((pw_g h3 24 1).toNat) (pw_i x3) = h11 at h11I h11E ⊢
              have h11F := E3.tr (h11E.wk (W' := [24, 25]) (by first | rfl | simp))
              refine pw_ld E (pc' := 71) (st' := [.ref 40]) rfl (fun _ => rfl) ?_
              refine pw_ld E (pc' := 72) (st' := [.ref 40, .ref 40]) rfl (fun _ => rfl) ?_
              have he13 : pw_g h11 24 1 = pw_g h3 24 1 := by rw [← h11w]; exact pw_g_ne (by omega)
              refine pw_getI2 h11I E (c := 24) (k := 1) (pc' := 75) rfl rfl rfl rfl rfl rfl (fun hf12a hf12b => ?_)
              refine pw_ld E (pc' := 76) (st' := [pw_i 1, pw_i (pw_g h11 24 1), .ref 40]) rfl (fun _ => rfl) ?_
              refine pw_add E (pc' := 77) rfl rfl ?_
              refine pw_putI h11I E (c := 24) (k := 1) (pc' := 80) rfl rfl rfl rfl (by omega) (by omega) (by omega) (by omega) rfl rfl ?_
              intro h14I h14E
              generalize h14w : pw_w h11 24 1 (pw_i ((pw_g h11 24 1) + 1)) = h14 at h14I h14E ⊢
              have h14F := h11F.tr (h14E.wk (W' := [24, 25]) (by first | rfl | simp))
              refine pw_inc E (pc' := 83) (ls' := [some (.ref 40), some (.long e8), none, some (pw_i (k3_3 + (-8))), some (pw_i x3), some (pw_i 1)]) rfl rfl rfl rfl ?_
              have nA : pw_g h11 24 1 = pw_g h3 24 1 := by rw [← h11w]; exact pw_g_ne (by omega)
              have n1 : pw_g h14 24 1 = pw_g h3 24 1 + 1 := by rw [← nA, ← h14w]; exact pw_g_eq (c := 24) (k := 1) h11I rfl rfl (by omega) (by omega)
              have T1 : pw_g h14 25 = fun q => if q = (pw_g h3 24 1).toNat then x3 else pw_g h3 25 q := funext fun q => by
                rw [← h14w, pw_g_ne (by omega)]
                by_cases z : q = (pw_g h3 24 1).toNat
                · rw [if_pos z, z, ← h11w]; exact pw_g_eqA I3 rfl (by omega) (by omega) (by omega)
                · rw [if_neg z, ← h11w]; exact pw_g_ne (fun w => z w.2.symm)
              have oB : ∃ j : Nat, j ≤ 8 ∧ k3_3 + (-8) = 56 - 8 * (j : Int) ∧ pb_c h14 = pb_fd pw_b97 e8 j (pb_c h) := ⟨j + 1, by omega, by omega, by
                have e : (x3 = 10 ∨ (32 ≤ x3 ∧ x3 ≤ 126)) ∧ pw_g h3 24 1 < 1000 := by omega
                rw [pb_fdS, ← hj3, hby]
                show (pw_g h14 24 1, pw_g h14 25) = _
                rw [n1, T1]
                exact (if_pos e).symm⟩
              refine pw_goto E (pc' := 3) rfl (by decide) ?_
              have he15 : pw_g h14 24 1 = (pw_g h11 24 1) + 1 := by rw [← h14w]; exact pw_g_eq (c := 24) (k := 1) h11I rfl rfl (by omega) (by omega)
              exact ih3 _ (by omega) (k3_3 + (-8)) (some (pw_i x3)) (some (pw_i 1)) h14 h14I h14F (by omega) (by omega) oB rfl
        · intro hc16
          change ¬ (x3 = (10 : Int)) at hc16
          refine pw_ld E (pc' := 26) (st' := [pw_i x3]) rfl (fun _ => rfl) ?_
          refine pw_bip E (pc' := 28) rfl rfl (by decide) ?_
          refine pw_bip E (pc' := 30) rfl rfl (by decide) ?_
          refine pw_call (m' := 121) (As := [pw_i x3, pw_i 32, pw_i 126]) (rest := []) (ls'' := [some (pw_i x3), some (pw_i 32), some (pw_i 126)]) (Nat.le_trans (by decide) hd) E rfl (fun _ => pw_iS rfl rfl rfl) (rfl : pm_ent 121 = some (3, 3, 11, 1, pmc_121)) rfl rfl (cm_121 (pw_dp hd (by decide)) I3 (x3) (by omega) (by omega) (32) (by omega) (by omega) (126) (by omega) (by omega)) ?_
          rintro u18 v17 ⟨rfl, x19, rfl, hx19a, hx19b, hx19r⟩
          refine ⟨_, rfl, ?_⟩
          show pw X d h3 97 33 [some (.ref 40), some (.long e8), none, some (pw_i k3_3), some (pw_i x3), k3_5] [pw_i x19] _
          change (x19 = 1 ∧ 32 ≤ x3 ∧ x3 ≤ 126) ∨ (x19 = 0 ∧ ¬ (32 ≤ x3 ∧ x3 ≤ 126)) at hx19r
          rcases (by omega : x19 = 1 ∨ x19 = 0) with hb20 | hb20
          · skip
            refine pw_if E (pc' := 40) rfl (by decide) (by omega) (by omega) ?_ ?_
            · intro hc21
              change x19 = (0 : Int) at hc21
              exfalso; omega
            · intro hc22
              change ¬ (x19 = (0 : Int)) at hc22
              refine pw_ld E (pc' := 37) (st' := [pw_i 1]) rfl (fun _ => rfl) ?_
              refine pw_goto E (pc' := 41) rfl (by decide) ?_
              refine pw_ist E (pc' := 43) (ls' := [some (.ref 40), some (.long e8), none, some (pw_i k3_3), some (pw_i x3), some (pw_i 1)]) rfl rfl rfl rfl ?_
              refine pw_ld E (pc' := 45) (st' := [pw_i 1]) rfl (fun _ => rfl) ?_
              refine pw_if E (pc' := 80) rfl (by decide) (by decide) (by decide) ?_ ?_
              · intro hc23
                change (1 : Int) = (0 : Int) at hc23
                exfalso; omega
              · intro hc24
                change ¬ ((1 : Int) = (0 : Int)) at hc24
                refine pw_ld E (pc' := 49) (st' := [.ref 40]) rfl (fun _ => rfl) ?_
                refine pw_getI2 I3 E (c := 24) (k := 1) (pc' := 52) rfl rfl rfl rfl rfl rfl (fun hf25a hf25b => ?_)
                refine pw_sip E (pc' := 55) rfl rfl (by decide) ?_
                refine pw_if2 E (pc' := 80) rfl (by decide) (by omega) (by omega) (by decide) (by decide) ?_ ?_
                · intro hc26
                  change (1000 : Int) ≤ pw_g h3 24 1 at hc26
                  refine pw_inc E (pc' := 83) (ls' := [some (.ref 40), some (.long e8), none, some (pw_i (k3_3 + (-8))), some (pw_i x3), some (pw_i 1)]) rfl rfl rfl rfl ?_
                  have oB : ∃ j : Nat, j ≤ 8 ∧ k3_3 + (-8) = 56 - 8 * (j : Int) ∧ pb_c h3 = pb_fd pw_b97 e8 j (pb_c h) := ⟨j + 1, by omega, by omega, by
                    have e : ¬ ((x3 = 10 ∨ (32 ≤ x3 ∧ x3 ≤ 126)) ∧ pw_g h3 24 1 < 1000) := by omega
                    rw [pb_fdS, ← hj3, hby]
                    exact (if_neg e).symm⟩
                  refine pw_goto E (pc' := 3) rfl (by decide) ?_
                  exact ih3 _ (by omega) (k3_3 + (-8)) (some (pw_i x3)) (some (pw_i 1)) h3 I3 E3 (by omega) (by omega) oB rfl
                · intro hc27
                  change ¬ ((1000 : Int) ≤ pw_g h3 24 1) at hc27
                  refine pw_ld E (pc' := 59) (st' := [.ref 40]) rfl (fun _ => rfl) ?_
                  refine pw_getR (b := 41) I3 E (c := 24) (k := 0) (pc' := 62) rfl rfl rfl rfl rfl rfl rfl ?_
                  refine pw_ld E (pc' := 63) (st' := [.ref 40, .ref 41]) rfl (fun _ => rfl) ?_
                  refine pw_getI2 I3 E (c := 24) (k := 1) (pc' := 66) rfl rfl rfl rfl rfl rfl (fun hf28a hf28b => ?_)
                  refine pw_ld E (pc' := 68) (st' := [pw_i x3, pw_i (pw_g h3 24 1), .ref 41]) rfl (fun _ => rfl) ?_
                  refine pw_i2c E (pc' := 69) rfl rfl (by omega) (by omega) ?_
                  refine pw_ast0 I3 E (c := 25) (pc' := 70) rfl rfl rfl (by decide) rfl (by decide) (by omega) (by omega) (pw_c16 (by omega) (by omega)) (by omega) (by omega) (by omega) (by omega) rfl ?_
                  intro h29I h29E
                  generalize h29w : pw_w h3 25 ((pw_g h3 24 1).toNat) (pw_i x3) = h29 at h29I h29E ⊢
                  have h29F := E3.tr (h29E.wk (W' := [24, 25]) (by first | rfl | simp))
                  refine pw_ld E (pc' := 71) (st' := [.ref 40]) rfl (fun _ => rfl) ?_
                  refine pw_ld E (pc' := 72) (st' := [.ref 40, .ref 40]) rfl (fun _ => rfl) ?_
                  have he31 : pw_g h29 24 1 = pw_g h3 24 1 := by rw [← h29w]; exact pw_g_ne (by omega)
                  refine pw_getI2 h29I E (c := 24) (k := 1) (pc' := 75) rfl rfl rfl rfl rfl rfl (fun hf30a hf30b => ?_)
                  refine pw_ld E (pc' := 76) (st' := [pw_i 1, pw_i (pw_g h29 24 1), .ref 40]) rfl (fun _ => rfl) ?_
                  refine pw_add E (pc' := 77) rfl rfl ?_
                  refine pw_putI h29I E (c := 24) (k := 1) (pc' := 80) rfl rfl rfl rfl (by omega) (by omega) (by omega) (by omega) rfl rfl ?_
                  intro h32I h32E
                  generalize h32w : pw_w h29 24 1 (pw_i ((pw_g h29 24 1) + 1)) = h32 at h32I h32E ⊢
                  have h32F := h29F.tr (h32E.wk (W' := [24, 25]) (by first | rfl | simp))
                  refine pw_inc E (pc' := 83) (ls' := [some (.ref 40), some (.long e8), none, some (pw_i (k3_3 + (-8))), some (pw_i x3), some (pw_i 1)]) rfl rfl rfl rfl ?_
                  have nA : pw_g h29 24 1 = pw_g h3 24 1 := by rw [← h29w]; exact pw_g_ne (by omega)
                  have n1 : pw_g h32 24 1 = pw_g h3 24 1 + 1 := by rw [← nA, ← h32w]; exact pw_g_eq (c := 24) (k := 1) h29I rfl rfl (by omega) (by omega)
                  have T1 : pw_g h32 25 = fun q => if q = (pw_g h3 24 1).toNat then x3 else pw_g h3 25 q := funext fun q => by
                    rw [← h32w, pw_g_ne (by omega)]
                    by_cases z : q = (pw_g h3 24 1).toNat
                    · rw [if_pos z, z, ← h29w]; exact pw_g_eqA I3 rfl (by omega) (by omega) (by omega)
                    · rw [if_neg z, ← h29w]; exact pw_g_ne (fun w => z w.2.symm)
                  have oB : ∃ j : Nat, j ≤ 8 ∧ k3_3 + (-8) = 56 - 8 * (j : Int) ∧ pb_c h32 = pb_fd pw_b97 e8 j (pb_c h) := ⟨j + 1, by omega, by omega, by
                    have e : (x3 = 10 ∨ (32 ≤ x3 ∧ x3 ≤ 126)) ∧ pw_g h3 24 1 < 1000 := by omega
                    rw [pb_fdS, ← hj3, hby]
                    show (pw_g h32 24 1, pw_g h32 25) = _
                    rw [n1, T1]
                    exact (if_pos e).symm⟩
                  refine pw_goto E (pc' := 3) rfl (by decide) ?_
                  have he33 : pw_g h32 24 1 = (pw_g h29 24 1) + 1 := by rw [← h32w]; exact pw_g_eq (c := 24) (k := 1) h29I rfl rfl (by omega) (by omega)
                  exact ih3 _ (by omega) (k3_3 + (-8)) (some (pw_i x3)) (some (pw_i 1)) h32 h32I h32F (by omega) (by omega) oB rfl
          · skip
            refine pw_if E (pc' := 40) rfl (by decide) (by omega) (by omega) ?_ ?_
            · intro hc35
              change x19 = (0 : Int) at hc35
              refine pw_ld E (pc' := 41) (st' := [pw_i 0]) rfl (fun _ => rfl) ?_
              refine pw_ist E (pc' := 43) (ls' := [some (.ref 40), some (.long e8), none, some (pw_i k3_3), some (pw_i x3), some (pw_i 0)]) rfl rfl rfl rfl ?_
              refine pw_ld E (pc' := 45) (st' := [pw_i 0]) rfl (fun _ => rfl) ?_
              refine pw_if E (pc' := 80) rfl (by decide) (by decide) (by decide) ?_ ?_
              · intro hc36
                change (0 : Int) = (0 : Int) at hc36
                refine pw_inc E (pc' := 83) (ls' := [some (.ref 40), some (.long e8), none, some (pw_i (k3_3 + (-8))), some (pw_i x3), some (pw_i 0)]) rfl rfl rfl rfl ?_
                have oB : ∃ j : Nat, j ≤ 8 ∧ k3_3 + (-8) = 56 - 8 * (j : Int) ∧ pb_c h3 = pb_fd pw_b97 e8 j (pb_c h) := ⟨j + 1, by omega, by omega, by
                  have e : ¬ ((x3 = 10 ∨ (32 ≤ x3 ∧ x3 ≤ 126)) ∧ pw_g h3 24 1 < 1000) := by omega
                  rw [pb_fdS, ← hj3, hby]
                  exact (if_neg e).symm⟩
                refine pw_goto E (pc' := 3) rfl (by decide) ?_
                exact ih3 _ (by omega) (k3_3 + (-8)) (some (pw_i x3)) (some (pw_i 0)) h3 I3 E3 (by omega) (by omega) oB rfl
              · intro hc37
                change ¬ ((0 : Int) = (0 : Int)) at hc37
                exfalso; omega
            · intro hc38
              change ¬ (x19 = (0 : Int)) at hc38
              exfalso; omega
  exact L3 _ (56) (none) (none) h I E0 (by omega) (by omega) ⟨0, by omega, by omega, rfl⟩ rfl
set_option maxHeartbeats 4000000 in
theorem cm_199_b {X : List (Nat × List Value)} {d : Nat} {h : pm_H} (hd : 1 ≤ d) (I : pw_I h) (e8 : Int64) : pw X d h 199 0 [some (.ref 141), some (.long e8), none, none, none] [] (fun h' v => pw_I h' ∧ pw_E [125, 126, 1002] h h' ∧ (pb_m h' = pb_fd pw_b199 e8 8 (pb_m h)) ∧ (v = .inl none)) := by
  have E : pm_ent 199 = some (2, 5, 12, 4, pmc_199) := rfl
  have E0 : pw_E [125, 126, 1002] h h := pw_E.rf _ _
  refine pw_bip E (pc' := 2) rfl rfl (by decide) ?_
  refine pw_istn E (pc' := 3) (ls' := [some (.ref 141), some (.long e8), none, some (pw_i 56), none]) rfl rfl rfl rfl ?_
  have L3 : ∀ (n3 : Nat) (k3_3 : Int) (k3_4 : Option Value) (gh3 : pm_H), pw_I gh3 → pw_E [125, 126, 1002] h gh3 → (-8) ≤ k3_3 → k3_3 ≤ 56 → (∃ j : Nat, j ≤ 8 ∧ k3_3 = 56 - 8 * (j : Int) ∧ pb_m gh3 = pb_fd pw_b199 e8 j (pb_m h)) → (k3_3 + 8).toNat = n3 → pw X d gh3 199 3 [some (.ref 141), some (.long e8), none, some (pw_i k3_3), k3_4] [] (fun h' v => pw_I h' ∧ pw_E [125, 126, 1002] h h' ∧ (pb_m h' = pb_fd pw_b199 e8 8 (pb_m h)) ∧ (v = .inl none)) := by
    intro n3
    induction n3 using Nat.strongRecOn with
    | ind n3 ih3 =>
      intro k3_3 k3_4 gh3 I3 E3 k3_3a k3_3b hx3_0 hm3
      refine pw_ld E (pc' := 4) (st' := [pw_i k3_3]) rfl (fun _ => rfl) ?_
      obtain ⟨j, hj1, hj2, hj3⟩ := hx3_0
      refine pw_if E (pc' := 75) rfl (by decide) (by omega) (by omega) ?_ ?_
      · intro hc1
        change k3_3 < (0 : Int) at hc1
        refine pw_vret E rfl ?_
        exact ⟨I3, E3, ⟨(by rw [show j = 8 by omega] at hj3; exact hj3), rfl⟩⟩
      · intro hc2
        change ¬ (k3_3 < (0 : Int)) at hc2
        refine pw_ld E (pc' := 8) (st' := [.long e8]) rfl (fun _ => rfl) ?_
        refine pw_ld E (pc' := 9) (st' := [pw_i k3_3, .long e8]) rfl (fun _ => rfl) ?_
        refine pw_ld E (pc' := 10) (st' := [.long (e8 >>> ((Int32.ofInt k3_3).toInt64 &&& 63))]) rfl (fun _ => rfl) ?_
        refine pw_l2iX E (pc' := 11) rfl rfl (fun x3 hx3a hx3b hx3c => ?_)
        refine pw_sip E (pc' := 14) rfl rfl (by decide) ?_
        refine pw_iiE (f := fun x y => x &&& y) (c := pw_an x3 255) E (pc' := 15) rfl (fun _ => rfl) rfl ?_
        have hp4 := pw_an255 x3
        refine pw_ist E (pc' := 17) (ls' := [some (.ref 141), some (.long e8), none, some (pw_i k3_3), some (pw_i (pw_an x3 255))]) rfl rfl rfl rfl ?_
        have hby : pw_b199 e8 (56 - 8 * (j : Int)) = pw_an x3 255 := by rw [← hj2]; unfold pw_b199; rw [← hx3c]
        refine pw_ld E (pc' := 19) (st' := [pw_i (pw_an x3 255)]) rfl (fun _ => rfl) ?_
        refine pw_bip E (pc' := 21) rfl rfl (by decide) ?_
        refine pw_if2 E (pc' := 38) rfl (by decide) (by omega) (by omega) (by decide) (by decide) ?_ ?_
        · intro hc5
          change pw_an x3 255 = (10 : Int) at hc5
          refine pw_ld E (pc' := 39) (st' := [.ref 141]) rfl (fun _ => rfl) ?_
          refine pw_getI2 I3 E (c := 125) (k := 2) (pc' := 42) rfl rfl rfl rfl rfl rfl (fun hf6a hf6b => ?_)
          refine pw_sip E (pc' := 45) rfl rfl (by decide) ?_
          refine pw_if2 E (pc' := 69) rfl (by decide) (by omega) (by omega) (by decide) (by decide) ?_ ?_
          · intro hc7
            change (1000 : Int) ≤ pw_g gh3 125 2 at hc7
            refine pw_inc E (pc' := 72) (ls' := [some (.ref 141), some (.long e8), none, some (pw_i (k3_3 + (-8))), some (pw_i (pw_an x3 255))]) rfl rfl rfl rfl ?_
            have oB : ∃ j : Nat, j ≤ 8 ∧ k3_3 + (-8) = 56 - 8 * (j : Int) ∧ pb_m gh3 = pb_fd pw_b199 e8 j (pb_m h) := ⟨j + 1, by omega, by omega, by
              have e : ¬ ((pw_an x3 255 = 10 ∨ (32 ≤ pw_an x3 255 ∧ pw_an x3 255 ≤ 126)) ∧ pw_g gh3 125 2 < 1000) := by omega
              rw [pb_fdS, ← hj3, hby]
              exact (if_neg e).symm⟩
            refine pw_goto E (pc' := 3) rfl (by decide) ?_
            exact ih3 _ (by omega) (k3_3 + (-8)) (some (pw_i (pw_an x3 255))) gh3 I3 E3 (by omega) (by omega) oB rfl
          · intro hc8
            change ¬ ((1000 : Int) ≤ pw_g gh3 125 2) at hc8
            refine pw_ld E (pc' := 49) (st' := [.ref 141]) rfl (fun _ => rfl) ?_
            refine pw_getR (b := 142) I3 E (c := 125) (k := 1) (pc' := 52) rfl rfl rfl rfl rfl rfl rfl ?_
            refine pw_ld E (pc' := 53) (st' := [.ref 141, .ref 142]) rfl (fun _ => rfl) ?_
            refine pw_getI2 I3 E (c := 125) (k := 2) (pc' := 56) rfl rfl rfl rfl rfl rfl (fun hf9a hf9b => ?_)
            refine pw_ld E (pc' := 58) (st' := [pw_i (pw_an x3 255), pw_i (pw_g gh3 125 2), .ref 142]) rfl (fun _ => rfl) ?_
            refine pw_ast0 I3 E (c := 126) (pc' := 59) rfl rfl rfl (by decide) rfl (by decide) (by omega) (by omega) rfl (by omega) (by omega) (by omega) (by omega) rfl ?_
            intro h10I h10E
            generalize h10w : pw_w gh3 126 ((pw_g gh3 125 2).toNat) (pw_i (pw_an x3 255)) = h10 at h10I h10E ⊢
            have h10F := E3.tr (h10E.wk (W' := [125, 126, 1002]) (by first | rfl | simp))
            refine pw_ld E (pc' := 60) (st' := [.ref 141]) rfl (fun _ => rfl) ?_
            refine pw_ld E (pc' := 61) (st' := [.ref 141, .ref 141]) rfl (fun _ => rfl) ?_
            have he12 : pw_g h10 125 2 = pw_g gh3 125 2 := by rw [← h10w]; exact pw_g_ne (by omega)
            refine pw_getI2 h10I E (c := 125) (k := 2) (pc' := 64) rfl rfl rfl rfl rfl rfl (fun hf11a hf11b => ?_)
            refine pw_ld E (pc' := 65) (st' := [pw_i 1, pw_i (pw_g h10 125 2), .ref 141]) rfl (fun _ => rfl) ?_
            refine pw_add E (pc' := 66) rfl rfl ?_
            refine pw_putP h10I E (k := 2) (pc' := 69) rfl rfl rfl rfl (by omega) (by omega) (by omega) (by omega) rfl rfl ?_
            intro h13I h13E
            generalize h13w : pw_w h10 125 2 (pw_i ((pw_g h10 125 2) + 1)) = h13 at h13I h13E ⊢
            have h13F := h10F.tr (h13E.wk (W' := [125, 126, 1002]) (by first | rfl | simp))
            refine pw_inc E (pc' := 72) (ls' := [some (.ref 141), some (.long e8), none, some (pw_i (k3_3 + (-8))), some (pw_i (pw_an x3 255))]) rfl rfl rfl rfl ?_
            have nA : pw_g h10 125 2 = pw_g gh3 125 2 := by rw [← h10w]; exact pw_g_ne (by omega)
            have n1 : pw_g h13 125 2 = pw_g gh3 125 2 + 1 := by rw [← nA, ← h13w]; exact pw_g_eq (c := 125) (k := 2) h10I rfl rfl (by omega) (by omega)
            have T1 : pw_g h13 126 = fun q => if q = (pw_g gh3 125 2).toNat then pw_an x3 255 else pw_g gh3 126 q := funext fun q => by
              rw [← h13w, pw_g_ne (by omega)]
              by_cases z : q = (pw_g gh3 125 2).toNat
              · rw [if_pos z, z, ← h10w]; exact pw_g_eqA I3 rfl (by omega) (by omega) (by omega)
              · rw [if_neg z, ← h10w]; exact pw_g_ne (fun w => z w.2.symm)
            have oB : ∃ j : Nat, j ≤ 8 ∧ k3_3 + (-8) = 56 - 8 * (j : Int) ∧ pb_m h13 = pb_fd pw_b199 e8 j (pb_m h) := ⟨j + 1, by omega, by omega, by
              have e : (pw_an x3 255 = 10 ∨ (32 ≤ pw_an x3 255 ∧ pw_an x3 255 ≤ 126)) ∧ pw_g gh3 125 2 < 1000 := by omega
              rw [pb_fdS, ← hj3, hby]
              show (pw_g h13 125 2, pw_g h13 126) = _
              rw [n1, T1]
              exact (if_pos e).symm⟩
            refine pw_goto E (pc' := 3) rfl (by decide) ?_
            have he14 : pw_g h13 125 2 = (pw_g h10 125 2) + 1 := by rw [← h13w]; exact pw_g_eq (c := 125) (k := 2) h10I rfl rfl (by omega) (by omega)
            exact ih3 _ (by omega) (k3_3 + (-8)) (some (pw_i (pw_an x3 255))) h13 h13I h13F (by omega) (by omega) oB rfl
        · intro hc15
          change ¬ (pw_an x3 255 = (10 : Int)) at hc15
          refine pw_ld E (pc' := 26) (st' := [pw_i (pw_an x3 255)]) rfl (fun _ => rfl) ?_
          refine pw_bip E (pc' := 28) rfl rfl (by decide) ?_
          refine pw_if2 E (pc' := 69) rfl (by decide) (by omega) (by omega) (by decide) (by decide) ?_ ?_
          · intro hc16
            change pw_an x3 255 < (32 : Int) at hc16
            refine pw_inc E (pc' := 72) (ls' := [some (.ref 141), some (.long e8), none, some (pw_i (k3_3 + (-8))), some (pw_i (pw_an x3 255))]) rfl rfl rfl rfl ?_
            have oB : ∃ j : Nat, j ≤ 8 ∧ k3_3 + (-8) = 56 - 8 * (j : Int) ∧ pb_m gh3 = pb_fd pw_b199 e8 j (pb_m h) := ⟨j + 1, by omega, by omega, by
              have e : ¬ ((pw_an x3 255 = 10 ∨ (32 ≤ pw_an x3 255 ∧ pw_an x3 255 ≤ 126)) ∧ pw_g gh3 125 2 < 1000) := by omega
              rw [pb_fdS, ← hj3, hby]
              exact (if_neg e).symm⟩
            refine pw_goto E (pc' := 3) rfl (by decide) ?_
            exact ih3 _ (by omega) (k3_3 + (-8)) (some (pw_i (pw_an x3 255))) gh3 I3 E3 (by omega) (by omega) oB rfl
          · intro hc17
            change ¬ (pw_an x3 255 < (32 : Int)) at hc17
            refine pw_ld E (pc' := 33) (st' := [pw_i (pw_an x3 255)]) rfl (fun _ => rfl) ?_
            refine pw_bip E (pc' := 35) rfl rfl (by decide) ?_
            refine pw_if2 E (pc' := 69) rfl (by decide) (by omega) (by omega) (by decide) (by decide) ?_ ?_
            · intro hc18
              change (126 : Int) < pw_an x3 255 at hc18
              refine pw_inc E (pc' := 72) (ls' := [some (.ref 141), some (.long e8), none, some (pw_i (k3_3 + (-8))), some (pw_i (pw_an x3 255))]) rfl rfl rfl rfl ?_
              have oB : ∃ j : Nat, j ≤ 8 ∧ k3_3 + (-8) = 56 - 8 * (j : Int) ∧ pb_m gh3 = pb_fd pw_b199 e8 j (pb_m h) := ⟨j + 1, by omega, by omega, by
                have e : ¬ ((pw_an x3 255 = 10 ∨ (32 ≤ pw_an x3 255 ∧ pw_an x3 255 ≤ 126)) ∧ pw_g gh3 125 2 < 1000) := by omega
                rw [pb_fdS, ← hj3, hby]
                exact (if_neg e).symm⟩
              refine pw_goto E (pc' := 3) rfl (by decide) ?_
              exact ih3 _ (by omega) (k3_3 + (-8)) (some (pw_i (pw_an x3 255))) gh3 I3 E3 (by omega) (by omega) oB rfl
            · intro hc19
              change ¬ ((126 : Int) < pw_an x3 255) at hc19
              refine pw_ld E (pc' := 39) (st' := [.ref 141]) rfl (fun _ => rfl) ?_
              refine pw_getI2 I3 E (c := 125) (k := 2) (pc' := 42) rfl rfl rfl rfl rfl rfl (fun hf20a hf20b => ?_)
              refine pw_sip E (pc' := 45) rfl rfl (by decide) ?_
              refine pw_if2 E (pc' := 69) rfl (by decide) (by omega) (by omega) (by decide) (by decide) ?_ ?_
              · intro hc21
                change (1000 : Int) ≤ pw_g gh3 125 2 at hc21
                refine pw_inc E (pc' := 72) (ls' := [some (.ref 141), some (.long e8), none, some (pw_i (k3_3 + (-8))), some (pw_i (pw_an x3 255))]) rfl rfl rfl rfl ?_
                have oB : ∃ j : Nat, j ≤ 8 ∧ k3_3 + (-8) = 56 - 8 * (j : Int) ∧ pb_m gh3 = pb_fd pw_b199 e8 j (pb_m h) := ⟨j + 1, by omega, by omega, by
                  have e : ¬ ((pw_an x3 255 = 10 ∨ (32 ≤ pw_an x3 255 ∧ pw_an x3 255 ≤ 126)) ∧ pw_g gh3 125 2 < 1000) := by omega
                  rw [pb_fdS, ← hj3, hby]
                  exact (if_neg e).symm⟩
                refine pw_goto E (pc' := 3) rfl (by decide) ?_
                exact ih3 _ (by omega) (k3_3 + (-8)) (some (pw_i (pw_an x3 255))) gh3 I3 E3 (by omega) (by omega) oB rfl
              · intro hc22
                change ¬ ((1000 : Int) ≤ pw_g gh3 125 2) at hc22
                refine pw_ld E (pc' := 49) (st' := [.ref 141]) rfl (fun _ => rfl) ?_
                refine pw_getR (b := 142) I3 E (c := 125) (k := 1) (pc' := 52) rfl rfl rfl rfl rfl rfl rfl ?_
                refine pw_ld E (pc' := 53) (st' := [.ref 141, .ref 142]) rfl (fun _ => rfl) ?_
                refine pw_getI2 I3 E (c := 125) (k := 2) (pc' := 56) rfl rfl rfl rfl rfl rfl (fun hf23a hf23b => ?_)
                refine pw_ld E (pc' := 58) (st' := [pw_i (pw_an x3 255), pw_i (pw_g gh3 125 2), .ref 142]) rfl (fun _ => rfl) ?_
                refine pw_ast0 I3 E (c := 126) (pc' := 59) rfl rfl rfl (by decide) rfl (by decide) (by omega) (by omega) rfl (by omega) (by omega) (by omega) (by omega) rfl ?_
                intro h24I h24E
                generalize h24w : pw_w gh3 126 ((pw_g gh3 125 2).toNat) (pw_i (pw_an x3 255)) = h24 at h24I h24E ⊢
                have h24F := E3.tr (h24E.wk (W' := [125, 126, 1002]) (by first | rfl | simp))
                refine pw_ld E (pc' := 60) (st' := [.ref 141]) rfl (fun _ => rfl) ?_
                refine pw_ld E (pc' := 61) (st' := [.ref 141, .ref 141]) rfl (fun _ => rfl) ?_
                have he26 : pw_g h24 125 2 = pw_g gh3 125 2 := by rw [← h24w]; exact pw_g_ne (by omega)
                refine pw_getI2 h24I E (c := 125) (k := 2) (pc' := 64) rfl rfl rfl rfl rfl rfl (fun hf25a hf25b => ?_)
                refine pw_ld E (pc' := 65) (st' := [pw_i 1, pw_i (pw_g h24 125 2), .ref 141]) rfl (fun _ => rfl) ?_
                refine pw_add E (pc' := 66) rfl rfl ?_
                refine pw_putP h24I E (k := 2) (pc' := 69) rfl rfl rfl rfl (by omega) (by omega) (by omega) (by omega) rfl rfl ?_
                intro h27I h27E
                generalize h27w : pw_w h24 125 2 (pw_i ((pw_g h24 125 2) + 1)) = h27 at h27I h27E ⊢
                have h27F := h24F.tr (h27E.wk (W' := [125, 126, 1002]) (by first | rfl | simp))
                refine pw_inc E (pc' := 72) (ls' := [some (.ref 141), some (.long e8), none, some (pw_i (k3_3 + (-8))), some (pw_i (pw_an x3 255))]) rfl rfl rfl rfl ?_
                have nA : pw_g h24 125 2 = pw_g gh3 125 2 := by rw [← h24w]; exact pw_g_ne (by omega)
                have n1 : pw_g h27 125 2 = pw_g gh3 125 2 + 1 := by rw [← nA, ← h27w]; exact pw_g_eq (c := 125) (k := 2) h24I rfl rfl (by omega) (by omega)
                have T1 : pw_g h27 126 = fun q => if q = (pw_g gh3 125 2).toNat then pw_an x3 255 else pw_g gh3 126 q := funext fun q => by
                  rw [← h27w, pw_g_ne (by omega)]
                  by_cases z : q = (pw_g gh3 125 2).toNat
                  · rw [if_pos z, z, ← h24w]; exact pw_g_eqA I3 rfl (by omega) (by omega) (by omega)
                  · rw [if_neg z, ← h24w]; exact pw_g_ne (fun w => z w.2.symm)
                have oB : ∃ j : Nat, j ≤ 8 ∧ k3_3 + (-8) = 56 - 8 * (j : Int) ∧ pb_m h27 = pb_fd pw_b199 e8 j (pb_m h) := ⟨j + 1, by omega, by omega, by
                  have e : (pw_an x3 255 = 10 ∨ (32 ≤ pw_an x3 255 ∧ pw_an x3 255 ≤ 126)) ∧ pw_g gh3 125 2 < 1000 := by omega
                  rw [pb_fdS, ← hj3, hby]
                  show (pw_g h27 125 2, pw_g h27 126) = _
                  rw [n1, T1]
                  exact (if_pos e).symm⟩
                refine pw_goto E (pc' := 3) rfl (by decide) ?_
                have he28 : pw_g h27 125 2 = (pw_g h24 125 2) + 1 := by rw [← h27w]; exact pw_g_eq (c := 125) (k := 2) h24I rfl rfl (by omega) (by omega)
                exact ih3 _ (by omega) (k3_3 + (-8)) (some (pw_i (pw_an x3 255))) h27 h27I h27F (by omega) (by omega) oB rfl
  exact L3 _ (56) (none) h I E0 (by omega) (by omega) ⟨0, by omega, by omega, rfl⟩ rfl
set_option maxHeartbeats 4000000 in
theorem cm_98_b {X : List (Nat × List Value)} {d : Nat} {h : pm_H} (hd : 1 ≤ d) (I : pw_I h)  : pw X d h 98 0 [some (.ref 40)] [] (fun h' v => h = h' ∧ ∃ a : Int, v = .inl (some (pw_i a)) ∧ 0 ≤ a ∧ a ≤ 1000 ∧ (a = pw_g h 24 1)) := by
  have E : pm_ent 98 = some (1, 1, 9, 0, pmc_98) := rfl
  refine pw_ld E (pc' := 1) (st' := [.ref 40]) rfl (fun _ => rfl) ?_
  refine pw_getI2 I E (c := 24) (k := 1) (pc' := 4) rfl rfl rfl rfl rfl rfl (fun hf1a hf1b => ?_)
  refine pw_iret E rfl ?_
  exact ⟨rfl, ⟨_, rfl, by omega, by omega, by omega⟩⟩
set_option maxHeartbeats 4000000 in
theorem cm_140_b {X : List (Nat × List Value)} {d : Nat} {h : pm_H} (hd : 3 ≤ d) (I : pw_I h) (x : Int64) (y : Int64) (z : Int64) : pw X d h 140 0 [some (.ref 16), some (.long x), none, some (.long y), none, some (.long z), none] [] (fun h' v => pw_I h' ∧ pw_E [24, 25] h h' ∧ ∃ a : Int, v = .inl (some (pw_i a)) ∧ (-2147483648) ≤ a ∧ a ≤ 2147483647 ∧ (a = pw_g h' 24 1 ∧ pb_c h' = pb_fd pw_b97 z 8 (pb_fd pw_b97 y 8 (pb_fd pw_b97 x 8 (pb_c h))))) := by
  have E : pm_ent 140 = some (4, 7, 11, 0, pmc_140) := rfl
  have E0 : pw_E [24, 25] h h := pw_E.rf _ _
  refine pw_ld E (pc' := 1) (st' := [.ref 16]) rfl (fun _ => rfl) ?_
  refine pw_getR (b := 40) I E (c := 0) (k := 10) (pc' := 4) rfl rfl rfl rfl rfl rfl rfl ?_
  refine pw_ld E (pc' := 5) (st' := [.long x, .ref 40]) rfl (fun _ => rfl) ?_
  obtain ⟨f1l, f1h, -⟩ := pw_obj (c := 24) I rfl
  refine pw_call (m' := 97) (As := [.ref 40, .long x]) (rest := []) (ls'' := [some (.ref 40), some (.long x), none, none, none, none]) (Nat.le_trans (by decide) hd) E rfl (fun _ => pw_iV rfl rfl rfl rfl (pw_cellI f1h rfl)) (rfl : pm_ent 97 = some (2, 6, 9, 4, pmc_97)) rfl rfl (cm_97_b (pw_dp hd (by decide)) I (x)) ?_
  rintro h2 v3 ⟨h2I, h2E, hqf1, rfl⟩
  refine ⟨_, rfl, ?_⟩
  have h2F := E0.tr (h2E.wk (W' := [24, 25]) (by first | rfl | simp))
  show pw X d h2 140 8 [some (.ref 16), some (.long x), none, some (.long y), none, some (.long z), none] [] _
  refine pw_ld E (pc' := 9) (st' := [.ref 16]) rfl (fun _ => rfl) ?_
  refine pw_getR (b := 40) h2I E (c := 0) (k := 10) (pc' := 12) rfl rfl rfl rfl rfl rfl rfl ?_
  refine pw_ld E (pc' := 13) (st' := [.long y, .ref 40]) rfl (fun _ => rfl) ?_
  obtain ⟨f4l, f4h, -⟩ := pw_obj (c := 24) h2I rfl
  refine pw_call (m' := 97) (As := [.ref 40, .long y]) (rest := []) (ls'' := [some (.ref 40), some (.long y), none, none, none, none]) (Nat.le_trans (by decide) hd) E rfl (fun _ => pw_iV rfl rfl rfl rfl (pw_cellI f4h rfl)) (rfl : pm_ent 97 = some (2, 6, 9, 4, pmc_97)) rfl rfl (cm_97_b (pw_dp hd (by decide)) h2I (y)) ?_
  rintro h5 v6 ⟨h5I, h5E, hqf2, rfl⟩
  refine ⟨_, rfl, ?_⟩
  have h5F := h2F.tr (h5E.wk (W' := [24, 25]) (by first | rfl | simp))
  show pw X d h5 140 16 [some (.ref 16), some (.long x), none, some (.long y), none, some (.long z), none] [] _
  refine pw_ld E (pc' := 17) (st' := [.ref 16]) rfl (fun _ => rfl) ?_
  refine pw_getR (b := 40) h5I E (c := 0) (k := 10) (pc' := 20) rfl rfl rfl rfl rfl rfl rfl ?_
  refine pw_ld E (pc' := 22) (st' := [.long z, .ref 40]) rfl (fun _ => rfl) ?_
  obtain ⟨f7l, f7h, -⟩ := pw_obj (c := 24) h5I rfl
  refine pw_call (m' := 97) (As := [.ref 40, .long z]) (rest := []) (ls'' := [some (.ref 40), some (.long z), none, none, none, none]) (Nat.le_trans (by decide) hd) E rfl (fun _ => pw_iV rfl rfl rfl rfl (pw_cellI f7h rfl)) (rfl : pm_ent 97 = some (2, 6, 9, 4, pmc_97)) rfl rfl (cm_97_b (pw_dp hd (by decide)) h5I (z)) ?_
  rintro h8 v9 ⟨h8I, h8E, hqf3, rfl⟩
  refine ⟨_, rfl, ?_⟩
  have h8F := h5F.tr (h8E.wk (W' := [24, 25]) (by first | rfl | simp))
  show pw X d h8 140 25 [some (.ref 16), some (.long x), none, some (.long y), none, some (.long z), none] [] _
  refine pw_ld E (pc' := 26) (st' := [.ref 16]) rfl (fun _ => rfl) ?_
  refine pw_getR (b := 40) h8I E (c := 0) (k := 10) (pc' := 29) rfl rfl rfl rfl rfl rfl rfl ?_
  obtain ⟨f10l, f10h, -⟩ := pw_obj (c := 24) h8I rfl
  refine pw_call (m' := 98) (As := [.ref 40]) (rest := []) (ls'' := [some (.ref 40)]) (Nat.le_trans (by decide) hd) E rfl (fun _ => pw_iV rfl rfl rfl rfl (pw_cellI f10h rfl)) (rfl : pm_ent 98 = some (1, 1, 9, 0, pmc_98)) rfl rfl (cm_98_b (pw_dp hd (by decide)) h8I ) ?_
  rintro u12 v11 ⟨rfl, x13, rfl, hx13a, hx13b, hx13r⟩
  refine ⟨_, rfl, ?_⟩
  show pw X d h8 140 32 [some (.ref 16), some (.long x), none, some (.long y), none, some (.long z), none] [pw_i x13] _
  change x13 = pw_g h8 24 1 at hx13r
  refine pw_iret E rfl ?_
  exact ⟨h8I, h8F, ⟨_, rfl, by omega, by omega, hx13r, by rw [hqf3, hqf2, hqf1]⟩⟩
set_option maxHeartbeats 4000000 in
theorem cm_198_b {X : List (Nat × List Value)} {d : Nat} {h : pm_H} (hd : 2 ≤ d) (I : pw_I h) (x : Int64) (y : Int64) (z : Int64) : pw X d h 198 0 [some (.ref 141), some (.long x), none, some (.long y), none, some (.long z), none] [] (fun h' v => pw_I h' ∧ pw_E [125, 126, 1002] h h' ∧ ∃ a : Int, v = .inl (some (pw_i a)) ∧ (-2147483648) ≤ a ∧ a ≤ 2147483647 ∧ (a = pw_g h' 125 2 ∧ pb_m h' = pb_fd pw_b199 z 8 (pb_fd pw_b199 y 8 (pb_fd pw_b199 x 8 (pb_m h))))) := by
  have E : pm_ent 198 = some (4, 7, 12, 0, pmc_198) := rfl
  have E0 : pw_E [125, 126, 1002] h h := pw_E.rf _ _
  refine pw_ld E (pc' := 1) (st' := [.ref 141]) rfl (fun _ => rfl) ?_
  refine pw_ld E (pc' := 2) (st' := [pw_i 0, .ref 141]) rfl (fun _ => rfl) ?_
  refine pw_putI I E (c := 125) (k := 0) (pc' := 5) rfl rfl rfl rfl (by omega) (by omega) (by omega) (by omega) rfl rfl ?_
  intro h1I h1E
  generalize h1w : pw_w h 125 0 (pw_i 0) = h1 at h1I h1E ⊢
  have h1F := E0.tr (h1E.wk (W' := [125, 126, 1002]) (by first | rfl | simp))
  refine pw_ld E (pc' := 6) (st' := [.ref 141]) rfl (fun _ => rfl) ?_
  refine pw_ld E (pc' := 7) (st' := [.long x, .ref 141]) rfl (fun _ => rfl) ?_
  obtain ⟨f2l, f2h, -⟩ := pw_obj (c := 125) h1I rfl
  refine pw_call (m' := 199) (As := [.ref 141, .long x]) (rest := []) (ls'' := [some (.ref 141), some (.long x), none, none, none]) (Nat.le_trans (by decide) hd) E rfl (fun _ => pw_iV rfl rfl rfl rfl (pw_cellI f2h rfl)) (rfl : pm_ent 199 = some (2, 5, 12, 4, pmc_199)) rfl rfl (cm_199_b (pw_dp hd (by decide)) h1I (x)) ?_
  rintro h3 v4 ⟨h3I, h3E, hqf1, rfl⟩
  refine ⟨_, rfl, ?_⟩
  have h3F := h1F.tr (h3E.wk (W' := [125, 126, 1002]) (by first | rfl | simp))
  show pw X d h3 198 10 [some (.ref 141), some (.long x), none, some (.long y), none, some (.long z), none] [] _
  refine pw_ld E (pc' := 11) (st' := [.ref 141]) rfl (fun _ => rfl) ?_
  refine pw_ld E (pc' := 12) (st' := [.long y, .ref 141]) rfl (fun _ => rfl) ?_
  obtain ⟨f5l, f5h, -⟩ := pw_obj (c := 125) h3I rfl
  refine pw_call (m' := 199) (As := [.ref 141, .long y]) (rest := []) (ls'' := [some (.ref 141), some (.long y), none, none, none]) (Nat.le_trans (by decide) hd) E rfl (fun _ => pw_iV rfl rfl rfl rfl (pw_cellI f5h rfl)) (rfl : pm_ent 199 = some (2, 5, 12, 4, pmc_199)) rfl rfl (cm_199_b (pw_dp hd (by decide)) h3I (y)) ?_
  rintro h6 v7 ⟨h6I, h6E, hqf2, rfl⟩
  refine ⟨_, rfl, ?_⟩
  have h6F := h3F.tr (h6E.wk (W' := [125, 126, 1002]) (by first | rfl | simp))
  show pw X d h6 198 15 [some (.ref 141), some (.long x), none, some (.long y), none, some (.long z), none] [] _
  refine pw_ld E (pc' := 16) (st' := [.ref 141]) rfl (fun _ => rfl) ?_
  refine pw_ld E (pc' := 18) (st' := [.long z, .ref 141]) rfl (fun _ => rfl) ?_
  obtain ⟨f8l, f8h, -⟩ := pw_obj (c := 125) h6I rfl
  refine pw_call (m' := 199) (As := [.ref 141, .long z]) (rest := []) (ls'' := [some (.ref 141), some (.long z), none, none, none]) (Nat.le_trans (by decide) hd) E rfl (fun _ => pw_iV rfl rfl rfl rfl (pw_cellI f8h rfl)) (rfl : pm_ent 199 = some (2, 5, 12, 4, pmc_199)) rfl rfl (cm_199_b (pw_dp hd (by decide)) h6I (z)) ?_
  rintro h9 v10 ⟨h9I, h9E, hqf3, rfl⟩
  refine ⟨_, rfl, ?_⟩
  have h9F := h6F.tr (h9E.wk (W' := [125, 126, 1002]) (by first | rfl | simp))
  show pw X d h9 198 21 [some (.ref 141), some (.long x), none, some (.long y), none, some (.long z), none] [] _
  refine pw_ld E (pc' := 22) (st' := [.ref 141]) rfl (fun _ => rfl) ?_
  refine pw_getI2 h9I E (c := 125) (k := 2) (pc' := 25) rfl rfl rfl rfl rfl rfl (fun hf11a hf11b => ?_)
  refine pw_iret E rfl ?_
  have h20 : pb_m h1 = pb_m h := by unfold pb_m; rw [show pw_g h1 125 2 = pw_g h 125 2 from by rw [← h1w]; exact pw_g_ne (by omega), show pw_g h1 126 = pw_g h 126 from funext fun j => by rw [← h1w]; exact pw_g_ne (by omega)]
  exact ⟨h9I, h9F, ⟨_, rfl, by omega, by omega, rfl, by rw [hqf3, hqf2, hqf1, h20]⟩⟩
end
section
/-! values: what a code says -/
/-- as 32 bits have it -/
def pe_wr (a : Int) : Int := (Int32.ofInt a).toInt
theorem pe_wrB (a : Int) : -2147483648 ≤ pe_wr a ∧ pe_wr a ≤ 2147483647 := pw_i32r _
/-- an operator of two -/
def pe_op (o x y : Int) : Int := if o = 1 then (if x ≠ 0 ∧ y ≠ 0 then 1 else 0) else if o = 2 then (if x ≠ 0 ∨ y ≠ 0 then 1 else 0) else if o = 3 then (if x < y then 1 else 0) else if o = 4 then (if x = y then 1 else 0) else if o = 5 then pe_wr (x + y) else if o = 6 then pe_wr (x - y) else pe_wr (x * y)
/-- one word more: what lies on the pile, the top first -/
def pe_1 (F : Int → Int) (x : Int) (st : List Int) : List Int :=
  if 10000 ≤ x then F (x - 10000) :: st
  else if 0 ≤ x then x :: st
  else if x = -8 then (match st with
    | a :: r => (if a = 0 then 1 else 0) :: r
    | [] => [])
  else (match st with
    | b :: a :: r => pe_op (-x) a b :: r
    | st => st)
/-- the pile behind a code, the last word first -/
def pe_s (F : Int → Int) : List Int → List Int
  | [] => []
  | x :: c => pe_1 F x (pe_s F c)
/-- its height -/
def pe_h : List Int → Int
  | [] => 0
  | x :: c => pe_h c + (if 0 ≤ x then 1 else if x = -8 then 0 else -1)
/-- no word meets too small or too high a pile -/
def pe_ok (B : Int) : List Int → Prop
  | [] => True
  | x :: c => pe_ok B c ∧ (0 ≤ x → pe_h c ≤ 39) ∧ (x = -8 → 1 ≤ pe_h c) ∧ (x < 0 → x ≠ -8 → 2 ≤ pe_h c) ∧ -8 ≤ x ∧ (10000 ≤ x → x ≤ 10000 + B)
section PeB
variable {B : Int}
/-- how many operators of two wait -/
def pe_nb : List Int → Int
  | [] => 0
  | x :: S => pe_nb S + (if x = 8 ∨ x = 9 then 0 else 1)
theorem pe_nbB : ∀ S : List Int, 0 ≤ pe_nb S ∧ pe_nb S ≤ S.length := by
  intro S
  induction S with
  | nil => exact ⟨Int.le_refl _, Int.le_refl _⟩
  | cons x S ih =>
    have e : pe_nb (x :: S) = pe_nb S + (if x = 8 ∨ x = 9 then 0 else 1) := rfl
    rw [e, List.length_cons]
    split <;> omega
/-- releasing keeps the account -/
theorem pe_rl {r : Int} (hr : 1 ≤ r) : ∀ (S c : List Int), px_wf S → pe_ok B c → pe_h c = pe_nb S + 1 → pe_ok B (pt_rl r S c).2 ∧ pe_h (pt_rl r S c).2 = pe_nb (pt_rl r S c).1 + 1 := by
  intro S
  induction S with
  | nil => intro c _ h e; exact ⟨h, e⟩
  | cons x S ih =>
    intro c w h e
    by_cases q : r ≤ pt_rk x
    · obtain ⟨n8, n9⟩ := px_rk_sm (x := x) (by omega)
      have e1 : pe_nb (x :: S) = pe_nb S + (if x = 8 ∨ x = 9 then 0 else 1) := rfl
      rw [if_neg (fun z => z.elim n8 n9)] at e1
      have b := (pe_nbB S).1
      have w1 := w.1
      rw [pt_rl_ge q]
      refine ih (-x :: c) w.2.2.2 ⟨h, fun z => by omega, fun z => by omega, fun _ _ => by omega, by have := w.2.1; omega, fun z => by omega⟩ ?_
      show pe_h c + (if 0 ≤ -x then 1 else if -x = -8 then 0 else -1) = _
      rw [if_neg (by omega), if_neg (by omega)]
      omega
    · have e1 : pt_rl r (x :: S) c = (x :: S, c) := if_neg q
      rw [e1]
      exact ⟨h, e⟩
theorem pe_ep : ∀ (S : List Int) (d : Int) (c : List Int), pe_ok B c → pe_h c = pe_nb S + 1 → pe_ok B (pt_ep S d c).2.2 ∧ pe_h (pt_ep S d c).2.2 = pe_nb (pt_ep S d c).1 + 1 := by
  intro S
  induction S with
  | nil => intro d c h e; exact ⟨h, e⟩
  | cons x S ih =>
    intro d c h e
    by_cases q : x = 8
    · have e1 : pt_ep (x :: S) d c = pt_ep S (d - 1) (-8 :: c) := if_pos q
      have e2 : pe_nb (x :: S) = pe_nb S + (if x = 8 ∨ x = 9 then 0 else 1) := rfl
      rw [if_pos (Or.inl q)] at e2
      have b := (pe_nbB S).1
      rw [e1]
      refine ih (d - 1) (-8 :: c) ⟨h, fun z => by omega, fun _ => by omega, fun _ z => absurd rfl z, by decide, fun z => by omega⟩ ?_
      show pe_h c + (if (0 : Int) ≤ -8 then 1 else if (-8 : Int) = -8 then 0 else -1) = _
      rw [if_neg (by decide), if_pos rfl]
      omega
    · have e1 : pt_ep (x :: S) d c = (x :: S, d, c) := if_neg q
      rw [e1]
      exact ⟨h, e⟩
end PeB
end
section
/-! values: the codes that are read are good -/
def pe_mx (wr : Int) : Int := if wr = 0 then 9 else 8
theorem pe_FFB {wr V : Int} : pt_FF wr V ≤ pe_mx wr := by
  unfold pt_FF pe_mx
  by_cases q : wr = 0
  · rw [if_pos q, if_pos q]
    have := pt_fdB (g := fun k => pt_wc (8 + k)) (V := V) 10
    omega
  · rw [if_neg q, if_neg q]
    have := pt_fdB (g := fun k => pt_wc (pt_wf k).toNat) (V := V) 9
    omega
section PeB
variable {B : Int}
def pe_IV (B : Int) (s : pt_St) : Prop := (px_wf s.2.1 ∧ s.2.2.1 = px_dc s.2.1 ∧ s.2.2.2.1 = px_oc s.2.1 ∧ s.2.2.1 ≤ 5) ∧ (s.1 = 0 ∨ (s.1 = 1 ∧ pt_n8 s.2.1)) ∧ pe_ok B s.2.2.2.2 ∧ pe_h s.2.2.2.2 = pe_nb s.2.1 + s.1
theorem pe_room {S : List Int} {d : Int} (w : px_wf S) (e : d = px_dc S) (d5 : d ≤ 5) : pe_nb S ≤ 29 := by
  have a := px_wf.len S w
  have b := (pe_nbB S).2
  have t := pt_trB S
  omega
theorem pe_fin {S c : List Int} {d o : Int} (w : px_wf S) (e : d = px_dc S) (eo : o = px_oc S) (d5 : d ≤ 5) (h : pe_ok B c) (hh : pe_h c = pe_nb S + 1) : pe_IV B (pt_fin S d o c) := by
  obtain ⟨a1, a2, a3, a4, a5⟩ := px_epW S d c e w
  obtain ⟨b1, b2⟩ := pe_ep S d c h hh
  exact ⟨⟨a3, a1, eo.trans a2.symm, by show (pt_ep S d c).2.1 ≤ 5; omega⟩, Or.inr ⟨rfl, a5⟩, b1, b2⟩
theorem pe_es {F : Int → Int} {K V : Int} {s : pt_St} (H : pe_IV B s) (hV : K = 2 → 0 ≤ V ∧ V ≤ 9999) (hF : F V ≤ B) : ((pt_es F K V s).1 = 0 → pe_IV B (pt_es F K V s).2) ∧ ((pt_es F K V s).1 = 9 → pe_ok B (pt_es F K V s).2.2.2.2.2 ∧ pe_h (pt_es F K V s).2.2.2.2.2 = 1) := by
  obtain ⟨a, S, d, o, c⟩ := s
  obtain ⟨⟨w, ed, eo, d5⟩, m, hc, hh⟩ := H
  dsimp only at w ed eo d5 m hc hh
  have rm := pe_room w ed d5
  rcases m with m | ⟨m, n8⟩
  · subst m
    rw [pt_es0]
    unfold pt_eo
    by_cases c1 : ¬ ((K = 1 ∧ (V = 19741 ∨ 0 ≤ F V)) ∨ (K = 3 ∧ V = 40) ∨ K = 2)
    · rw [if_pos c1]
      exact ⟨fun q => absurd (show (1 : Int) = 0 from q) (by decide), fun q => absurd (show (1 : Int) = 9 from q) (by decide)⟩
    rw [if_neg c1]
    by_cases c2 : 5 ≤ d
    · rw [if_pos c2]
      exact ⟨fun q => absurd (show (5 : Int) = 0 from q) (by decide), fun q => absurd (show (5 : Int) = 9 from q) (by decide)⟩
    rw [if_neg c2]
    have dB := px_dcB S
    by_cases c3 : K = 1 ∧ V = 19741
    · rw [if_pos c3]
      refine ⟨fun _ => ⟨⟨⟨by decide, by decide, fun q => absurd q (by decide), w⟩, ?_, ?_, ?_⟩, Or.inl rfl, hc, ?_⟩, fun q => absurd (show (0 : Int) = 9 from q) (by decide)⟩
      · show d + 1 = px_dc S + (if (8 : Int) = 8 ∨ (8 : Int) = 9 then 1 else 0)
        rw [if_pos (by decide)]; omega
      · show o = px_oc S + (if (8 : Int) = 9 then 1 else 0)
        rw [if_neg (by decide)]; omega
      · show d + 1 ≤ 5
        omega
      · show pe_h c = pe_nb S + (if (8 : Int) = 8 ∨ (8 : Int) = 9 then 0 else 1) + 0
        rw [if_pos (by decide)]; omega
    rw [if_neg c3]
    by_cases c4 : K = 3
    · rw [if_pos c4]
      refine ⟨fun _ => ⟨⟨⟨by decide, by decide, fun q => absurd q (by decide), w⟩, ?_, ?_, ?_⟩, Or.inl rfl, hc, ?_⟩, fun q => absurd (show (0 : Int) = 9 from q) (by decide)⟩
      · show d + 1 = px_dc S + (if (9 : Int) = 8 ∨ (9 : Int) = 9 then 1 else 0)
        rw [if_pos (by decide)]; omega
      · show o + 1 = px_oc S + (if (9 : Int) = 9 then 1 else 0)
        rw [if_pos rfl]; omega
      · show d + 1 ≤ 5
        omega
      · show pe_h c = pe_nb S + (if (9 : Int) = 8 ∨ (9 : Int) = 9 then 0 else 1) + 0
        rw [if_pos (by decide)]; omega
    rw [if_neg c4]
    have x0 : 0 ≤ (if K = 2 then V else 10000 + F V) ∧ (10000 ≤ (if K = 2 then V else 10000 + F V) → (if K = 2 then V else 10000 + F V) ≤ 10000 + B) := by
      by_cases c5 : K = 2
      · rw [if_pos c5]; have := hV c5; exact ⟨by omega, fun z => by omega⟩
      · rw [if_neg c5]; exact ⟨by omega, fun z => by omega⟩
    generalize (if K = 2 then V else 10000 + F V) = x at x0
    have hx : pe_h (x :: c) = pe_h c + 1 := by
      show pe_h c + (if 0 ≤ x then 1 else if x = -8 then 0 else -1) = _
      rw [if_pos x0.1]
    refine ⟨fun _ => pe_fin w ed eo d5 ⟨hc, fun _ => by omega, fun q => by omega, fun q => by omega, by omega, x0.2⟩ (by omega), fun q => absurd (show (0 : Int) = 9 from q) (by decide)⟩
  · subst m
    rw [pt_es1]
    unfold pt_er
    by_cases c1 : K = 3 ∧ V = 59
    · rw [if_pos c1]
      by_cases c2 : 0 < o
      · rw [if_pos c2]
        exact ⟨fun q => absurd (show (1 : Int) = 0 from q) (by decide), fun q => absurd (show (1 : Int) = 9 from q) (by decide)⟩
      · rw [if_neg c2]
        refine ⟨fun q => absurd (show (9 : Int) = 0 from q) (by decide), fun _ => ?_⟩
        obtain ⟨r1, r2⟩ := pe_rl (r := 1) (Int.le_refl _) S c w hc hh
        refine ⟨r1, ?_⟩
        show pe_h (pt_rl 1 S c).2 = 1
        have e : (pt_rl 1 S c).1 = [] := by
          obtain ⟨w1, w2, w3⟩ := px_rlW (r := 1) (Int.le_refl _) S c
          rcases px_rlT (r := 1) S c with t | t
          · cases q : (pt_rl 1 S c).1 with
            | nil => rfl
            | cons x T =>
              exfalso
              rw [q] at w2 w3 t
              obtain ⟨v1, v2⟩ := w3 w
              have hx := (px_rk_0 v1.1 v1.2.1 t).resolve_left (v2 n8)
              have e2 : px_oc (x :: T) = px_oc T + (if x = 9 then 1 else 0) := rfl
              rw [if_pos hx] at e2
              have := (px_dcB T).1
              omega
          · exact t
        rw [r2, e]
        rfl
    rw [if_neg c1]
    by_cases c2 : K = 3 ∧ V = 41
    · rw [if_pos c2]
      by_cases c3 : o ≤ 0
      · rw [if_pos c3]
        exact ⟨fun q => absurd (show (1 : Int) = 0 from q) (by decide), fun q => absurd (show (1 : Int) = 9 from q) (by decide)⟩
      · rw [if_neg c3]
        refine ⟨fun _ => ?_, fun q => absurd (show (0 : Int) = 9 from q) (by decide)⟩
        obtain ⟨T, t1, t2, t3, t4⟩ := px_clT (c := c) w n8 (by omega)
        obtain ⟨r1, r2⟩ := pe_rl (r := 1) (Int.le_refl _) S c w hc hh
        rw [t1] at r2
        have e1 : pe_nb (9 :: T) = pe_nb T + (if (9 : Int) = 8 ∨ (9 : Int) = 9 then 0 else 1) := rfl
        rw [if_pos (by decide)] at e1
        show pe_IV B (pt_fin (pt_rl 1 S c).1.tail (d - 1) (o - 1) (pt_rl 1 S c).2)
        rw [t1]
        exact pe_fin (S := T) t4 (by omega) (by omega) (by omega) r1 (by omega)
    rw [if_neg c2]
    by_cases c3 : pt_opn K V = -1
    · rw [if_pos c3]
      exact ⟨fun q => absurd (show (1 : Int) = 0 from q) (by decide), fun q => absurd (show (1 : Int) = 9 from q) (by decide)⟩
    rw [if_neg c3]
    by_cases c4 : pt_rk (pt_opn K V) = 2 ∧ pt_tr (pt_rl 3 S c).1 = 2
    · rw [if_pos c4]
      exact ⟨fun q => absurd (show (1 : Int) = 0 from q) (by decide), fun q => absurd (show (1 : Int) = 9 from q) (by decide)⟩
    rw [if_neg c4]
    refine ⟨fun _ => ?_, fun q => absurd (show (0 : Int) = 9 from q) (by decide)⟩
    have y1 := (pt_opnB K V).resolve_left c3
    have yd := px_opnD K V
    generalize pt_opn K V = y at y1 yd c3
    have yr : 1 ≤ y ∧ y ≤ 7 := by omega
    obtain ⟨w1, w2, w3⟩ := px_rlW (r := pt_rk y) y1 S c
    obtain ⟨r1, r2⟩ := pe_rl (r := pt_rk y) y1 S c w hc hh
    have tt : pt_tr (pt_rl (pt_rk y) S c).1 < pt_rk y := by
      rcases px_rlT (r := pt_rk y) S c with t | t
      · exact t
      · rw [t]; show (0 : Int) < pt_rk y; omega
    refine ⟨⟨⟨yr.1, by omega, fun _ => ⟨(w3 w).2 n8, tt⟩, (w3 w).1⟩, ?_, ?_, d5⟩, Or.inl rfl, r1, ?_⟩
    · show d = px_dc (pt_rl (pt_rk y) S c).1 + (if y = 8 ∨ y = 9 then 1 else 0)
      rw [if_neg (by omega)]; omega
    · show o = px_oc (pt_rl (pt_rk y) S c).1 + (if y = 9 then 1 else 0)
      rw [if_neg (by omega)]; omega
    · show pe_h (pt_rl (pt_rk y) S c).2 = pe_nb (pt_rl (pt_rk y) S c).1 + (if y = 8 ∨ y = 9 then 0 else 1) + 0
      rw [if_neg (by omega)]; omega
theorem pe_rn {F : Int → Int} {K V : Nat → Int} (hV : ∀ i : Nat, K i = 2 → 0 ≤ V i ∧ V i ≤ 9999) (hF : ∀ v : Int, F v ≤ B) : ∀ (m i : Nat) (s : pt_St), pe_IV B s → (pt_rn F K V m i s).1 = 9 → pe_ok B (pt_rn F K V m i s).2.2.2.2.2.2 ∧ pe_h (pt_rn F K V m i s).2.2.2.2.2.2 = 1 := by
  intro m
  induction m with
  | zero => intro i s _ q; exact absurd (show (0 : Int) = 9 from q) (by decide)
  | succ m ih =>
    intro i s H q
    obtain ⟨a, b⟩ := pe_es (F := F) H (hV i) (hF _)
    by_cases z : (pt_es F (K i) (V i) s).1 = 0
    · have e : pt_rn F K V (m + 1) i s = pt_rn F K V m (i + 1) (pt_es F (K i) (V i) s).2 := if_pos z
      rw [e] at q ⊢
      exact ih _ _ (a z) q
    · have e : pt_rn F K V (m + 1) i s = ((pt_es F (K i) (V i) s).1, i, (pt_es F (K i) (V i) s).2) := if_neg z
      rw [e] at q ⊢
      exact b q
theorem pe_E {F : Int → Int} {K V P : Nat → Int} (hV : ∀ i : Nat, K i = 2 → 0 ≤ V i ∧ V i ≤ 9999) (hF : ∀ v : Int, F v ≤ B) (p0 : ∀ j : Nat, 0 ≤ P j) {i n : Nat} (k0 : K n = 0) (hn : n ≤ 1000) (hi : i ≤ n) (z : (pt_E F K V P i).1 = 0) : pe_ok B (pt_E F K V P i).2.2 ∧ pe_h (pt_E F K V P i).2.2 = 1 := by
  obtain ⟨a, b⟩ := pt_rn_st (F := F) (V := V) k0 1100 i pt_s0 hi (by omega)
  unfold pt_E at z ⊢
  by_cases q : (pt_rn F K V 1100 i pt_s0).1 = 9
  · rw [if_pos q]
    exact pe_rn hV hF 1100 i pt_s0 ⟨⟨trivial, rfl, rfl, by decide⟩, Or.inl rfl, trivial, rfl⟩ q
  · rw [if_neg q] at z
    have z : (pt_rn F K V 1100 i pt_s0).1 + 16 * P (pt_rn F K V 1100 i pt_s0).2.1 = 0 := z
    have := p0 (pt_rn F K V 1100 i pt_s0).2.1
    omega
end PeB
/-- of a text without a fault each line's code is good -/
def pe_good (wr : Int) (th : Int → Int) (C : Int → List Int) : Prop := ∀ k : Int, th k ≠ 0 → pt_FO wr k < 0 → pe_ok (pe_mx wr) (C k) ∧ pe_h (C k) = 1
theorem pe_line {wr : Int} {K V P : Nat → Int} {th : Int → Int} {i n : Nat} (hV : ∀ i : Nat, K i = 2 → 0 ≤ V i ∧ V i ≤ 9999) (p0 : ∀ j : Nat, 0 ≤ P j) (k0 : K n = 0) (hn : n ≤ 1000) (hi : i < n) (z : (pt_line wr K V P th i).1 = 0) (f : pt_FO wr (pt_line wr K V P th i).2.2.1 < 0) : pe_ok (pe_mx wr) (pt_line wr K V P th i).2.2.2.1 ∧ pe_h (pt_line wr K V P th i).2.2.2.1 = 1 := by
  unfold pt_line at z f ⊢
  generalize pt_wo wr K V i = x at z f ⊢
  unfold pt_ln2 at z f ⊢
  have q0 := p0 i
  have q1 := p0 (i + 1)
  have q2 := p0 (i + 2)
  by_cases c1 : x < 0
  · rw [if_pos c1] at z; exact absurd z (show ¬ (1 + 16 * P i = 0) by omega)
  rw [if_neg c1] at z f ⊢
  by_cases c2 : th x ≠ 0
  · rw [if_pos c2] at z; exact absurd z (show ¬ (3 + 16 * P i = 0) by omega)
  rw [if_neg c2] at z f ⊢
  by_cases c3 : pt_FO wr x = -1
  · rw [if_pos c3] at z ⊢
    exact pe_E hV (fun v => pe_FFB) p0 k0 hn (by omega) z
  rw [if_neg c3] at z f ⊢
  by_cases c4 : pt_FO wr x = -2
  · rw [if_pos c4] at z ⊢
    by_cases c5 : K (i + 1) = 1 ∧ V (i + 1) = 1176170
    · rw [if_pos c5] at z ⊢
      have l : i + 1 ≠ n := fun q => by rw [q, k0] at c5; exact absurd c5.1 (by decide)
      exact pe_E hV (fun v => pe_FFB) p0 k0 hn (by omega) z
    · rw [if_neg c5] at z; exact absurd z (show ¬ (1 + 16 * P (i + 1) = 0) by omega)
  rw [if_neg c4] at z f ⊢
  exfalso
  have fo := px_FOB wr x
  by_cases c5 : K (i + 1) ≠ 2
  · rw [if_pos c5] at z; exact absurd z (show ¬ (1 + 16 * P (i + 1) = 0) by omega)
  rw [if_neg c5] at z f
  by_cases c6 : pt_FO wr x < V (i + 1)
  · rw [if_pos c6] at z; exact absurd z (show ¬ (4 + 16 * P (i + 1) = 0) by omega)
  rw [if_neg c6] at z f
  by_cases c7 : K (i + 2) = 3 ∧ V (i + 2) = 59
  · rw [if_pos c7] at f
    have f : pt_FO wr x < 0 := f
    omega
  · rw [if_neg c7] at z; exact absurd z (show ¬ (1 + 16 * P (i + 2) = 0) by omega)
theorem pe_text {wr : Int} {K V P : Nat → Int} {n : Nat} (hV : ∀ i : Nat, K i = 2 → 0 ≤ V i ∧ V i ≤ 9999) (p0 : ∀ j : Nat, 0 ≤ P j) (k0 : K n = 0) (kz : ∀ i : Nat, n ≤ i → K i = 0) (hn : n ≤ 1000) : ∀ (m : Nat) (i : Int) (th : Int → Int) (C : Int → List Int) (N : Int → Int), 0 ≤ i → pe_good wr th C → pe_good wr (pt_text wr K V P m i th C N).2.1 (pt_text wr K V P m i th C N).2.2.1 := by
  intro m
  induction m with
  | zero => intro i th C N _ g; exact g
  | succ m ih =>
    intro i th C N i0 g
    unfold pt_text
    by_cases c1 : K i.toNat = 0
    · rw [if_pos c1]; exact g
    rw [if_neg c1]
    by_cases c2 : (pt_line wr K V P th i.toNat).1 ≠ 0
    · rw [if_pos c2]; exact g
    rw [if_neg c2]
    have l : i.toNat < n := by
      by_cases q : i.toNat < n
      · exact q
      · exact absurd (kz _ (by omega)) c1
    have gt := pt_line_gt (V := V) (th := th) k0 hn p0 l (wr := wr) (by omega)
    refine ih _ _ _ _ (by omega) (fun k hk f => ?_)
    by_cases q : k = (pt_line wr K V P th i.toNat).2.2.1
    · rw [if_pos q]
      rw [q] at f
      exact pe_line hV p0 k0 hn l (by omega) f
    · rw [if_neg q] at hk ⊢
      exact g k hk f
end
section
/-! values: a script's code as the class has it -/
def px_cq (h : pm_H) (c : Nat) : Nat := match h[c]? with
  | some (.inr q) => (match (q.2 : List Value)[0]? with
    | some (Value.ref r) => r - 16
    | _ => 0)
  | _ => 0
def px_cw (h : pm_H) (c j : Nat) : Int := pw_g h (px_cq h c) j
def px_cn (h : pm_H) (c : Nat) : Nat := match h[px_cq h c]? with
  | some (.inl a) => a.2.length
  | _ => 0
theorem px_cqE {h : pm_H} {c q : Nat} {cj : Nat} {fs : List Value} (s1 : h[c]? = some (.inr (cj, fs))) (s2 : fs[0]? = some (.ref (16 + q))) : px_cq h c = q := by
  unfold px_cq
  rw [s1]
  show (match (fs : List Value)[0]? with
    | some (Value.ref r) => r - 16
    | _ => 0) = q
  rw [s2]
  show 16 + q - 16 = q
  omega
theorem px_cnE {h : pm_H} {c q : Nat} {t : Nat} {l : List Value} (e : px_cq h c = q) (s : h[q]? = some (.inl (t, l))) : px_cn h c = l.length := by
  unfold px_cn
  rw [e, s]
theorem pe_tail {B : Int} {w : Nat → Int} {m : Nat} : ∀ n : Nat, m ≤ n → pe_ok B (px_st w n) → pe_ok B (px_st w m) := by
  intro n
  induction n with
  | zero => intro h k; rw [show m = 0 by omega]; exact k
  | succ n ih =>
    intro h k
    by_cases q : m = n + 1
    · rw [q]; exact k
    · exact ih (by omega) k.1
theorem px_stS {w : Nat → Int} {n : Nat} : px_st w (n + 1) = w n :: px_st w n := rfl
/-- one value more, one changed -/
theorem pe_push {w w' : Nat → Int} {n : Nat} (e : ∀ j : Nat, j ≠ n → w' j = w j) : px_st w' (n + 1) = w' n :: px_st w n := by
  rw [px_stS, px_st_cg n (fun j hj => e j (by omega))]
theorem pe_not {F : Int → Int} {w w' : Nat → Int} {n : Nat} {v : Int} (e : ∀ j : Nat, j ≠ n → w' j = w j) (hv : w' n = v) (h : v = if w n = 0 then 1 else 0) : px_st w' (n + 1) = pe_1 F (-8) (px_st w (n + 1)) := by
  rw [pe_push e, px_stS, hv, h]
  rfl
theorem pe_bin {F : Int → Int} {w w' : Nat → Int} {n : Nat} {o : Int} (o1 : 1 ≤ o) (o8 : o ≠ 8) (e : ∀ j : Nat, j ≠ n → w' j = w j) (hv : w' n = pe_op o (w n) (w (n + 1))) : px_st w' (n + 1) = pe_1 F (-o) (px_st w (n + 2)) := by
  rw [pe_push e, hv]
  show _ = pe_1 F (-o) (w (n + 1) :: w n :: px_st w n)
  unfold pe_1
  rw [if_neg (by omega), if_neg (by omega), if_neg (by omega), Int.neg_neg]
theorem pe_num {F : Int → Int} {x : Int} {st : List Int} (h : 0 ≤ x) : pe_1 F x st = (if 10000 ≤ x then F (x - 10000) else x) :: st := by
  unfold pe_1
  by_cases q : 10000 ≤ x
  · rw [if_pos q, if_pos q]
  · rw [if_neg q, if_neg q, if_pos h]
/-- the facts -/
def pe_F (h : pm_H) (f : Nat) (n : Int) (j : Int) : Int := if 0 ≤ j ∧ j < n then pw_g h f j.toNat else 0
/-- a line's code -/
def px_LC (h : pm_H) (c : Nat) (k : Int) (cd : List Int) : Prop := 0 ≤ pw_g h (c + 2) k.toNat ∧ pw_g h (c + 2) k.toNat ≤ pw_g h (c + 3) k.toNat ∧ pw_g h (c + 3) k.toNat ≤ px_cn h c ∧ px_st (fun j => px_cw h c ((pw_g h (c + 2) k.toNat).toNat + j)) (pw_g h (c + 3) k.toNat - pw_g h (c + 2) k.toNat).toNat = cd ∧ (px_cq h c = c + 6 ∨ 170 ≤ px_cq h c)
theorem pe_op1 (x y : Int) : pe_op 1 x y = (if x ≠ 0 ∧ y ≠ 0 then 1 else 0) := if_pos rfl
theorem pe_op2 (x y : Int) : pe_op 2 x y = (if x ≠ 0 ∨ y ≠ 0 then 1 else 0) := (if_neg (by decide)).trans (if_pos rfl)
theorem pe_op3 (x y : Int) : pe_op 3 x y = (if x < y then 1 else 0) := (if_neg (by decide)).trans ((if_neg (by decide)).trans (if_pos rfl))
theorem pe_op4 (x y : Int) : pe_op 4 x y = (if x = y then 1 else 0) := (if_neg (by decide)).trans ((if_neg (by decide)).trans ((if_neg (by decide)).trans (if_pos rfl)))
theorem pe_op5 (x y : Int) : pe_op 5 x y = pe_wr (x + y) := (if_neg (by decide)).trans ((if_neg (by decide)).trans ((if_neg (by decide)).trans ((if_neg (by decide)).trans (if_pos rfl))))
theorem pe_op6 (x y : Int) : pe_op 6 x y = pe_wr (x - y) := (if_neg (by decide)).trans ((if_neg (by decide)).trans ((if_neg (by decide)).trans ((if_neg (by decide)).trans ((if_neg (by decide)).trans (if_pos rfl)))))
theorem pe_op7 (x y : Int) : pe_op 7 x y = pe_wr (x * y) := (if_neg (by decide)).trans ((if_neg (by decide)).trans ((if_neg (by decide)).trans ((if_neg (by decide)).trans ((if_neg (by decide)).trans (if_neg (by decide))))))
theorem px_nc {x y : Nat} (h : x ≠ y) : [y].contains x = false := Bool.eq_false_iff.mpr (fun q => h (List.mem_singleton.mp (List.contains_iff_mem.mp q)))
/-- a script's code stays -/
theorem px_cdE {W : List Nat} {h h' : pm_H} {c : Nat} (E : pw_E W h h') (l1 : c < h.length) (n1 : c ∉ W) (l2 : px_cq h c < h.length) (n2 : px_cq h c ∉ W) : px_cq h' c = px_cq h c ∧ (∀ j : Nat, px_cw h' c j = px_cw h c j) ∧ px_cn h' c = px_cn h c := by
  have e1 : h'[c]? = h[c]? := E.2.1 c l1 n1
  have e2 : px_cq h' c = px_cq h c := by unfold px_cq; rw [e1]
  have e3 : h'[px_cq h c]? = h[px_cq h c]? := E.2.1 _ l2 n2
  refine ⟨e2, fun j => ?_, ?_⟩
  · unfold px_cw pw_g pw_at
    rw [e2, e3]
  · unfold px_cn
    rw [e2, e3]
section Pe
variable {X : List (Nat × List Value)} {d : Nat} {h : pm_H} {m pc na nl own rt : Nat} {C : pm_T (Instr × Nat)} {ls : pm_L} {r : List Value} {Q : pm_H → (Option Value ⊕ Unit) → Prop}
theorem pe_nm {a : Int} (H : pw X d h m pc ls (pw_i (pe_wr a) :: r) Q) : pw X d h m pc ls (pw_i a :: r) Q := by
  have e : (pw_i a : Value) = pw_i (pe_wr a) := by unfold pw_i pe_wr; rw [Int32.ofInt_toInt]
  rw [e]
  exact H
theorem pe_cald {c a pc' len : Nat} {l : List Value} {j : Int} (he : pm_ent m = some (na, nl, own, rt, C)) (hq : pm_get C pc = some (.iaload, len)) (hl : h[c]? = some (.inl (0, l))) (hi : pw_ints l) (ha : 16 + c = a) (hn : l.length ≤ 1000) (h0 : 0 ≤ j) (h1 : j < l.length) (hc : pc + len = pc') (H : ∀ x : Int, -2147483648 ≤ x → x ≤ 2147483647 → x = pw_g h c j.toNat → pw X d h m pc' ls (pw_i x :: r) Q) : pw X d h m pc ls (pw_i j :: .ref a :: r) Q := by
  subst hc
  have hlt : j.toNat < l.length := by omega
  obtain ⟨y, hy⟩ := hi j.toNat _ (List.getElem?_eq_getElem hlt)
  have e : pw_g h c j.toNat = y.toInt := by
    unfold pw_g pw_at
    rw [hl]
    show pw_iv l[j.toNat]? = y.toInt
    rw [List.getElem?_eq_getElem hlt, hy]
    rfl
  have b := pw_i32r y
  have K := H y.toInt b.1 b.2 e.symm
  have e2 : (pw_i y.toInt : Value) = Value.int y := by unfold pw_i; rw [Int32.ofInt_toInt]
  rw [e2] at K
  refine pw_ld he hq (st' := .int y :: r) (pc' := pc + len) (fun ih => ?_) K
  show pm_gAld X 0 0 ih d h m own pc len ls (pw_i j :: .ref a :: r) = _
  unfold pm_gAld pw_i
  dsimp only
  rw [pw_rowI hl ha]
  show cond (Nat.beq 0 0 || Nat.beq 0 0) (cond (decide (Int32.ofInt j < 0)) none (match pm_nth l (Int32.ofInt j).toNatClampNeg with
        | some (.int x) => pm_fn (pc + len) fun q => ih d h m q ls (.int x :: r)
        | _ => none)) none = _
  rw [decide_eq_false (pw_neg h0 (by omega)), pw_clamp h0 (by omega), pm_nth_eq, List.getElem?_eq_getElem hlt, hy]
  show pm_fn (pc + len) (fun q => ih d h m q ls (.int y :: r)) = _
  rw [pm_fn_eq]
end Pe
end
