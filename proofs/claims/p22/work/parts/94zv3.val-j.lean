section
/-! the class's values, exactly -/
set_option maxHeartbeats 4000000 in
theorem cm_77_x {X : List (Nat × List Value)} {d : Nat} {h : pm_H} (hd : 1 ≤ d) (I : pw_I h) (op : Int) (hop1 : 1 ≤ op) (hop2 : op ≤ 7) (x : Int) (hx1 : (-2147483648) ≤ x) (hx2 : x ≤ 2147483647) (y : Int) (hy1 : (-2147483648) ≤ y) (hy2 : y ≤ 2147483647) : pw X d h 77 0 [some (pw_i op), some (pw_i x), some (pw_i y)] [] (fun h' v => h = h' ∧ ∃ a : Int, v = .inl (some (pw_i a)) ∧ (-2147483648) ≤ a ∧ a ≤ 2147483647 ∧ (a = pe_op op x y)) := by
  have E : pm_ent 77 = some (3, 3, 7, 0, pmc_77) := rfl
  refine pw_ld E (pc' := 1) (st' := [pw_i op]) rfl (fun _ => rfl) ?_
  rcases (by omega : op = 1 ∨ op = 2 ∨ op = 3 ∨ op = 4 ∨ op = 5 ∨ op = 6 ∨ (op < 1 ∨ 6 < op)) with hs1 | hs1 | hs1 | hs1 | hs1 | hs1 | hs1
  · refine pw_tswJ (o := 39) E (pc' := 40) rfl (by omega) (by omega) (by omega) (by rw [hs1]; rfl) (by decide) ?_
    refine pw_ld E (pc' := 41) (st' := [pw_i x]) rfl (fun _ => rfl) ?_
    refine pw_if E (pc' := 52) rfl (by decide) (by omega) (by omega) ?_ ?_
    · intro hc2
      change x = (0 : Int) at hc2
      refine pw_ld E (pc' := 53) (st' := [pw_i 0]) rfl (fun _ => rfl) ?_
      refine pw_iret E rfl ?_
      exact ⟨rfl, ⟨_, rfl, by omega, by omega, by rw [show op = 1 by omega, pe_op1]; first | exact (if_pos (by omega)).symm | exact (if_neg (by omega)).symm⟩⟩
    · intro hc3
      change ¬ (x = (0 : Int)) at hc3
      refine pw_ld E (pc' := 45) (st' := [pw_i y]) rfl (fun _ => rfl) ?_
      refine pw_if E (pc' := 52) rfl (by decide) (by omega) (by omega) ?_ ?_
      · intro hc4
        change y = (0 : Int) at hc4
        refine pw_ld E (pc' := 53) (st' := [pw_i 0]) rfl (fun _ => rfl) ?_
        refine pw_iret E rfl ?_
        exact ⟨rfl, ⟨_, rfl, by omega, by omega, by rw [show op = 1 by omega, pe_op1]; first | exact (if_pos (by omega)).symm | exact (if_neg (by omega)).symm⟩⟩
      · intro hc5
        change ¬ (y = (0 : Int)) at hc5
        refine pw_ld E (pc' := 49) (st' := [pw_i 1]) rfl (fun _ => rfl) ?_
        refine pw_goto E (pc' := 53) rfl (by decide) ?_
        refine pw_iret E rfl ?_
        exact ⟨rfl, ⟨_, rfl, by omega, by omega, by rw [show op = 1 by omega, pe_op1]; first | exact (if_pos (by omega)).symm | exact (if_neg (by omega)).symm⟩⟩
  · refine pw_tswJ (o := 53) E (pc' := 54) rfl (by omega) (by omega) (by omega) (by rw [hs1]; rfl) (by decide) ?_
    refine pw_ld E (pc' := 55) (st' := [pw_i x]) rfl (fun _ => rfl) ?_
    refine pw_if E (pc' := 62) rfl (by decide) (by omega) (by omega) ?_ ?_
    · intro hc6
      change x ≠ (0 : Int) at hc6
      refine pw_ld E (pc' := 63) (st' := [pw_i 1]) rfl (fun _ => rfl) ?_
      refine pw_goto E (pc' := 67) rfl (by decide) ?_
      refine pw_iret E rfl ?_
      exact ⟨rfl, ⟨_, rfl, by omega, by omega, by rw [show op = 2 by omega, pe_op2]; first | exact (if_pos (by omega)).symm | exact (if_neg (by omega)).symm⟩⟩
    · intro hc7
      change ¬ (x ≠ (0 : Int)) at hc7
      refine pw_ld E (pc' := 59) (st' := [pw_i y]) rfl (fun _ => rfl) ?_
      refine pw_if E (pc' := 66) rfl (by decide) (by omega) (by omega) ?_ ?_
      · intro hc8
        change y = (0 : Int) at hc8
        refine pw_ld E (pc' := 67) (st' := [pw_i 0]) rfl (fun _ => rfl) ?_
        refine pw_iret E rfl ?_
        exact ⟨rfl, ⟨_, rfl, by omega, by omega, by rw [show op = 2 by omega, pe_op2]; first | exact (if_pos (by omega)).symm | exact (if_neg (by omega)).symm⟩⟩
      · intro hc9
        change ¬ (y = (0 : Int)) at hc9
        refine pw_ld E (pc' := 63) (st' := [pw_i 1]) rfl (fun _ => rfl) ?_
        refine pw_goto E (pc' := 67) rfl (by decide) ?_
        refine pw_iret E rfl ?_
        exact ⟨rfl, ⟨_, rfl, by omega, by omega, by rw [show op = 2 by omega, pe_op2]; first | exact (if_pos (by omega)).symm | exact (if_neg (by omega)).symm⟩⟩
  · refine pw_tswJ (o := 67) E (pc' := 68) rfl (by omega) (by omega) (by omega) (by rw [hs1]; rfl) (by decide) ?_
    refine pw_ld E (pc' := 69) (st' := [pw_i x]) rfl (fun _ => rfl) ?_
    refine pw_ld E (pc' := 70) (st' := [pw_i y, pw_i x]) rfl (fun _ => rfl) ?_
    refine pw_if2 E (pc' := 77) rfl (by decide) (by omega) (by omega) (by omega) (by omega) ?_ ?_
    · intro hc10
      change y ≤ x at hc10
      refine pw_ld E (pc' := 78) (st' := [pw_i 0]) rfl (fun _ => rfl) ?_
      refine pw_iret E rfl ?_
      exact ⟨rfl, ⟨_, rfl, by omega, by omega, by rw [show op = 3 by omega, pe_op3]; first | exact (if_pos (by omega)).symm | exact (if_neg (by omega)).symm⟩⟩
    · intro hc11
      change ¬ (y ≤ x) at hc11
      refine pw_ld E (pc' := 74) (st' := [pw_i 1]) rfl (fun _ => rfl) ?_
      refine pw_goto E (pc' := 78) rfl (by decide) ?_
      refine pw_iret E rfl ?_
      exact ⟨rfl, ⟨_, rfl, by omega, by omega, by rw [show op = 3 by omega, pe_op3]; first | exact (if_pos (by omega)).symm | exact (if_neg (by omega)).symm⟩⟩
  · refine pw_tswJ (o := 78) E (pc' := 79) rfl (by omega) (by omega) (by omega) (by rw [hs1]; rfl) (by decide) ?_
    refine pw_ld E (pc' := 80) (st' := [pw_i x]) rfl (fun _ => rfl) ?_
    refine pw_ld E (pc' := 81) (st' := [pw_i y, pw_i x]) rfl (fun _ => rfl) ?_
    refine pw_if2 E (pc' := 88) rfl (by decide) (by omega) (by omega) (by omega) (by omega) ?_ ?_
    · intro hc12
      change x ≠ y at hc12
      refine pw_ld E (pc' := 89) (st' := [pw_i 0]) rfl (fun _ => rfl) ?_
      refine pw_iret E rfl ?_
      exact ⟨rfl, ⟨_, rfl, by omega, by omega, by rw [show op = 4 by omega, pe_op4]; first | exact (if_pos (by omega)).symm | exact (if_neg (by omega)).symm⟩⟩
    · intro hc13
      change ¬ (x ≠ y) at hc13
      refine pw_ld E (pc' := 85) (st' := [pw_i 1]) rfl (fun _ => rfl) ?_
      refine pw_goto E (pc' := 89) rfl (by decide) ?_
      refine pw_iret E rfl ?_
      exact ⟨rfl, ⟨_, rfl, by omega, by omega, by rw [show op = 4 by omega, pe_op4]; first | exact (if_pos (by omega)).symm | exact (if_neg (by omega)).symm⟩⟩
  · refine pw_tswJ (o := 89) E (pc' := 90) rfl (by omega) (by omega) (by omega) (by rw [hs1]; rfl) (by decide) ?_
    refine pw_ld E (pc' := 91) (st' := [pw_i x]) rfl (fun _ => rfl) ?_
    refine pw_ld E (pc' := 92) (st' := [pw_i y, pw_i x]) rfl (fun _ => rfl) ?_
    refine pw_add E (pc' := 93) rfl rfl ?_
    refine pe_nm ?_
    have hw14 := pe_wrB (x + y)
    refine pw_iret E rfl ?_
    exact ⟨rfl, ⟨_, rfl, by omega, by omega, by rw [show op = 5 by omega, pe_op5]⟩⟩
  · refine pw_tswJ (o := 93) E (pc' := 94) rfl (by omega) (by omega) (by omega) (by rw [hs1]; rfl) (by decide) ?_
    refine pw_ld E (pc' := 95) (st' := [pw_i x]) rfl (fun _ => rfl) ?_
    refine pw_ld E (pc' := 96) (st' := [pw_i y, pw_i x]) rfl (fun _ => rfl) ?_
    refine pw_sub E (pc' := 97) rfl rfl ?_
    refine pe_nm ?_
    have hw15 := pe_wrB (x - y)
    refine pw_iret E rfl ?_
    exact ⟨rfl, ⟨_, rfl, by omega, by omega, by rw [show op = 6 by omega, pe_op6]⟩⟩
  · refine pw_tswD E (pc' := 98) rfl (by omega) (by omega) hs1 (by decide) ?_
    refine pw_ld E (pc' := 99) (st' := [pw_i x]) rfl (fun _ => rfl) ?_
    refine pw_ld E (pc' := 100) (st' := [pw_i y, pw_i x]) rfl (fun _ => rfl) ?_
    refine pw_mul E (pc' := 101) rfl rfl ?_
    refine pe_nm ?_
    have hw16 := pe_wrB (x * y)
    refine pw_iret E rfl ?_
    exact ⟨rfl, ⟨_, rfl, by omega, by omega, by rw [show op = 7 by omega, pe_op7]⟩⟩
set_option maxHeartbeats 4000000 in
theorem cm_76_x {X : List (Nat × List Value)} {d : Nat} {h : pm_H} (hd : 2 ≤ d) (I : pw_I h) (c : Nat) (hc : pw_Sc c) (op : Int) (hop1 : 1 ≤ op) (hop2 : op ≤ 8) (sz : Int) (hsz1 : 1 ≤ sz) (hsz2 : sz ≤ 40) (F : Int → Int) (hp0 : op = 8 → 1 ≤ sz) (hp1 : op ≠ 8 → 2 ≤ sz) : pw X d h 76 0 [some (.ref (16 + c)), some (pw_i op), some (pw_i sz)] [] (fun h' v => pw_I h' ∧ pw_E [c + 5] h h' ∧ ∃ a : Int, v = .inl (some (pw_i a)) ∧ 0 ≤ a ∧ a ≤ 40 ∧ (((op = 8 ∧ a = sz) ∨ (op ≠ 8 ∧ a = sz - 1)) ∧ px_st (pw_g h' (c + 5)) a.toNat = pe_1 F (-op) (px_st (pw_g h (c + 5)) sz.toNat))) := by
  have E : pm_ent 76 = some (3, 3, 7, 0, pmc_76) := rfl
  have E0 : pw_E [c + 5] h h := pw_E.rf _ _
  refine pw_ld E (pc' := 1) (st' := [pw_i op]) rfl (fun _ => rfl) ?_
  refine pw_bip E (pc' := 3) rfl rfl (by decide) ?_
  refine pw_if2 E (pc' := 37) rfl (by decide) (by omega) (by omega) (by decide) (by decide) ?_ ?_
  · intro hc1
    change op ≠ (8 : Int) at hc1
    refine pw_ld E (pc' := 38) (st' := [pw_i sz]) rfl (fun _ => rfl) ?_
    refine pw_ld E (pc' := 39) (st' := [pw_i 2, pw_i sz]) rfl (fun _ => rfl) ?_
    refine pw_if2 E (pc' := 44) rfl (by decide) (by omega) (by omega) (by decide) (by decide) ?_ ?_
    · intro hc2
      change (2 : Int) ≤ sz at hc2
      refine pw_ld E (pc' := 45) (st' := [.ref (16 + c)]) rfl (fun _ => rfl) ?_
      refine pw_getR (b := 16 + (c + 5)) I E (c := c) (k := 6) (pc' := 48) rfl rfl (pw_Sc_o hc) rfl rfl rfl rfl ?_
      refine pw_ld E (pc' := 49) (st' := [pw_i sz, .ref (16 + (c + 5))]) rfl (fun _ => rfl) ?_
      refine pw_ld E (pc' := 50) (st' := [pw_i 2, pw_i sz, .ref (16 + (c + 5))]) rfl (fun _ => rfl) ?_
      refine pw_sub E (pc' := 51) rfl rfl ?_
      refine pw_ld E (pc' := 52) (st' := [pw_i op, pw_i (sz - 2), .ref (16 + (c + 5))]) rfl (fun _ => rfl) ?_
      refine pw_ld E (pc' := 53) (st' := [.ref (16 + c), pw_i op, pw_i (sz - 2), .ref (16 + (c + 5))]) rfl (fun _ => rfl) ?_
      refine pw_getR (b := 16 + (c + 5)) I E (c := c) (k := 6) (pc' := 56) rfl rfl (pw_Sc_o hc) rfl rfl rfl rfl ?_
      refine pw_ld E (pc' := 57) (st' := [pw_i sz, .ref (16 + (c + 5)), pw_i op, pw_i (sz - 2), .ref (16 + (c + 5))]) rfl (fun _ => rfl) ?_
      refine pw_ld E (pc' := 58) (st' := [pw_i 2, pw_i sz, .ref (16 + (c + 5)), pw_i op, pw_i (sz - 2), .ref (16 + (c + 5))]) rfl (fun _ => rfl) ?_
      refine pw_sub E (pc' := 59) rfl rfl ?_
      refine pw_ald2 I E (c := c + 5) (pc' := 60) rfl rfl (pw_Sc_5 hc) (by decide) rfl (by decide) (by omega) (by omega) rfl (fun hf3a hf3b => ?_)
      refine pw_ld E (pc' := 61) (st' := [.ref (16 + c), pw_i (pw_g h (c + 5) ((sz - 2).toNat)), pw_i op, pw_i (sz - 2), .ref (16 + (c + 5))]) rfl (fun _ => rfl) ?_
      refine pw_getR (b := 16 + (c + 5)) I E (c := c) (k := 6) (pc' := 64) rfl rfl (pw_Sc_o hc) rfl rfl rfl rfl ?_
      refine pw_ld E (pc' := 65) (st' := [pw_i sz, .ref (16 + (c + 5)), pw_i (pw_g h (c + 5) ((sz - 2).toNat)), pw_i op, pw_i (sz - 2), .ref (16 + (c + 5))]) rfl (fun _ => rfl) ?_
      refine pw_ld E (pc' := 66) (st' := [pw_i 1, pw_i sz, .ref (16 + (c + 5)), pw_i (pw_g h (c + 5) ((sz - 2).toNat)), pw_i op, pw_i (sz - 2), .ref (16 + (c + 5))]) rfl (fun _ => rfl) ?_
      refine pw_sub E (pc' := 67) rfl rfl ?_
      refine pw_ald2 I E (c := c + 5) (pc' := 68) rfl rfl (pw_Sc_5 hc) (by decide) rfl (by decide) (by omega) (by omega) rfl (fun hf4a hf4b => ?_)
      refine pw_call (m' := 77) (As := [pw_i op, pw_i (pw_g h (c + 5) ((sz - 2).toNat)), pw_i (pw_g h (c + 5) ((sz - 1).toNat))]) (rest := [pw_i (sz - 2), .ref (16 + (c + 5))]) (ls'' := [some (pw_i op), some (pw_i (pw_g h (c + 5) ((sz - 2).toNat))), some (pw_i (pw_g h (c + 5) ((sz - 1).toNat)))]) (Nat.le_trans (by decide) hd) E rfl (fun _ => pw_iS rfl rfl rfl) (rfl : pm_ent 77 = some (3, 3, 7, 0, pmc_77)) rfl rfl (cm_77_x (pw_dp hd (by decide)) I (op) (by omega) (by omega) (pw_g h (c + 5) ((sz - 2).toNat)) (by omega) (by omega) (pw_g h (c + 5) ((sz - 1).toNat)) (by omega) (by omega)) ?_
      rintro u6 v5 ⟨rfl, x7, rfl, hx7a, hx7b, hx7r⟩
      refine ⟨_, rfl, ?_⟩
      show pw X d h 76 71 [some (.ref (16 + c)), some (pw_i op), some (pw_i sz)] [pw_i x7, pw_i (sz - 2), .ref (16 + (c + 5))] _
      change x7 = pe_op op (pw_g h (c + 5) ((sz - 2).toNat)) (pw_g h (c + 5) ((sz - 1).toNat)) at hx7r
      refine pw_ast0 I E (c := c + 5) (pc' := 72) rfl rfl (pw_Sc_5 hc) (by decide) rfl (by decide) (by omega) (by omega) rfl (by omega) (by omega) (by omega) (by omega) rfl ?_
      intro h8I h8E
      generalize h8w : pw_w h (c + 5) ((sz - 2).toNat) (pw_i x7) = h8 at h8I h8E ⊢
      have h8F := E0.tr (h8E.wk (W' := [c + 5]) (by first | rfl | simp))
      refine pw_ld E (pc' := 73) (st' := [pw_i sz]) rfl (fun _ => rfl) ?_
      refine pw_ld E (pc' := 74) (st' := [pw_i 1, pw_i sz]) rfl (fun _ => rfl) ?_
      refine pw_sub E (pc' := 75) rfl rfl ?_
      refine pw_iret E rfl ?_
      have e1 : (sz - 1).toNat = (sz - 2).toNat + 1 := by omega
      have e2 : sz.toNat = (sz - 2).toNat + 2 := by omega
      have hv : pw_g h8 (c + 5) (sz - 2).toNat = x7 := by rw [← h8w]; exact pw_g_eqA I (pw_Sc_5 hc) (by omega) (by omega) (by omega)
      rw [e1] at hx7r
      have hq : px_st (pw_g h8 (c + 5)) (sz - 1).toNat = pe_1 F (-op) (px_st (pw_g h (c + 5)) sz.toNat) := by
        rw [e1, e2]
        exact pe_bin (by omega) (by omega) (fun j hj => by rw [← h8w]; exact pw_g_ne (fun q => hj (by omega))) (hv.trans hx7r)
      exact ⟨h8I, h8F, ⟨_, rfl, by omega, by omega, Or.inr ⟨by omega, by omega⟩, hq⟩⟩
    · intro hc9
      change ¬ ((2 : Int) ≤ sz) at hc9
      refine pw_ld E (pc' := 43) (st' := [pw_i sz]) rfl (fun _ => rfl) ?_
      refine pw_iret E rfl ?_
      exfalso
      omega
  · intro hc10
    change ¬ (op ≠ (8 : Int)) at hc10
    refine pw_ld E (pc' := 7) (st' := [pw_i sz]) rfl (fun _ => rfl) ?_
    refine pw_ld E (pc' := 8) (st' := [pw_i 1, pw_i sz]) rfl (fun _ => rfl) ?_
    refine pw_if2 E (pc' := 35) rfl (by decide) (by omega) (by omega) (by decide) (by decide) ?_ ?_
    · intro hc11
      change sz < (1 : Int) at hc11
      exfalso; omega
    · intro hc12
      change ¬ (sz < (1 : Int)) at hc12
      refine pw_ld E (pc' := 12) (st' := [.ref (16 + c)]) rfl (fun _ => rfl) ?_
      refine pw_getR (b := 16 + (c + 5)) I E (c := c) (k := 6) (pc' := 15) rfl rfl (pw_Sc_o hc) rfl rfl rfl rfl ?_
      refine pw_ld E (pc' := 16) (st' := [pw_i sz, .ref (16 + (c + 5))]) rfl (fun _ => rfl) ?_
      refine pw_ld E (pc' := 17) (st' := [pw_i 1, pw_i sz, .ref (16 + (c + 5))]) rfl (fun _ => rfl) ?_
      refine pw_sub E (pc' := 18) rfl rfl ?_
      refine pw_ld E (pc' := 19) (st' := [.ref (16 + c), pw_i (sz - 1), .ref (16 + (c + 5))]) rfl (fun _ => rfl) ?_
      refine pw_getR (b := 16 + (c + 5)) I E (c := c) (k := 6) (pc' := 22) rfl rfl (pw_Sc_o hc) rfl rfl rfl rfl ?_
      refine pw_ld E (pc' := 23) (st' := [pw_i sz, .ref (16 + (c + 5)), pw_i (sz - 1), .ref (16 + (c + 5))]) rfl (fun _ => rfl) ?_
      refine pw_ld E (pc' := 24) (st' := [pw_i 1, pw_i sz, .ref (16 + (c + 5)), pw_i (sz - 1), .ref (16 + (c + 5))]) rfl (fun _ => rfl) ?_
      refine pw_sub E (pc' := 25) rfl rfl ?_
      refine pw_ald2 I E (c := c + 5) (pc' := 26) rfl rfl (pw_Sc_5 hc) (by decide) rfl (by decide) (by omega) (by omega) rfl (fun hf13a hf13b => ?_)
      refine pw_if E (pc' := 33) rfl (by decide) (by omega) (by omega) ?_ ?_
      · intro hc14
        change pw_g h (c + 5) ((sz - 1).toNat) ≠ (0 : Int) at hc14
        refine pw_ld E (pc' := 34) (st' := [pw_i 0, pw_i (sz - 1), .ref (16 + (c + 5))]) rfl (fun _ => rfl) ?_
        refine pw_ast0 I E (c := c + 5) (pc' := 35) rfl rfl (pw_Sc_5 hc) (by decide) rfl (by decide) (by omega) (by omega) rfl (by omega) (by omega) (by omega) (by omega) rfl ?_
        intro h15I h15E
        generalize h15w : pw_w h (c + 5) ((sz - 1).toNat) (pw_i 0) = h15 at h15I h15E ⊢
        have h15F := E0.tr (h15E.wk (W' := [c + 5]) (by first | rfl | simp))
        refine pw_ld E (pc' := 36) (st' := [pw_i sz]) rfl (fun _ => rfl) ?_
        refine pw_iret E rfl ?_
        have e1 : sz.toNat = (sz - 1).toNat + 1 := by omega
        have hv : pw_g h15 (c + 5) (sz - 1).toNat = 0 := by rw [← h15w]; exact pw_g_eqA I (pw_Sc_5 hc) (by omega) (by omega) (by omega)
        have hq : px_st (pw_g h15 (c + 5)) sz.toNat = pe_1 F (-op) (px_st (pw_g h (c + 5)) sz.toNat) := by
          rw [e1, show op = 8 by omega]
          exact pe_not (fun j hj => by rw [← h15w]; exact pw_g_ne (fun q => hj (by omega))) hv (by first | exact (if_pos (by omega)).symm | exact (if_neg (by omega)).symm)
        exact ⟨h15I, h15F, ⟨_, rfl, by omega, by omega, Or.inl ⟨by omega, rfl⟩, hq⟩⟩
      · intro hc16
        change ¬ (pw_g h (c + 5) ((sz - 1).toNat) ≠ (0 : Int)) at hc16
        refine pw_ld E (pc' := 30) (st' := [pw_i 1, pw_i (sz - 1), .ref (16 + (c + 5))]) rfl (fun _ => rfl) ?_
        refine pw_goto E (pc' := 34) rfl (by decide) ?_
        refine pw_ast0 I E (c := c + 5) (pc' := 35) rfl rfl (pw_Sc_5 hc) (by decide) rfl (by decide) (by omega) (by omega) rfl (by omega) (by omega) (by omega) (by omega) rfl ?_
        intro h17I h17E
        generalize h17w : pw_w h (c + 5) ((sz - 1).toNat) (pw_i 1) = h17 at h17I h17E ⊢
        have h17F := E0.tr (h17E.wk (W' := [c + 5]) (by first | rfl | simp))
        refine pw_ld E (pc' := 36) (st' := [pw_i sz]) rfl (fun _ => rfl) ?_
        refine pw_iret E rfl ?_
        have e1 : sz.toNat = (sz - 1).toNat + 1 := by omega
        have hv : pw_g h17 (c + 5) (sz - 1).toNat = 1 := by rw [← h17w]; exact pw_g_eqA I (pw_Sc_5 hc) (by omega) (by omega) (by omega)
        have hq : px_st (pw_g h17 (c + 5)) sz.toNat = pe_1 F (-op) (px_st (pw_g h (c + 5)) sz.toNat) := by
          rw [e1, show op = 8 by omega]
          exact pe_not (fun j hj => by rw [← h17w]; exact pw_g_ne (fun q => hj (by omega))) hv (by first | exact (if_pos (by omega)).symm | exact (if_neg (by omega)).symm)
        exact ⟨h17I, h17F, ⟨_, rfl, by omega, by omega, Or.inl ⟨by omega, rfl⟩, hq⟩⟩
set_option maxHeartbeats 4000000 in
theorem cm_78_99x {X : List (Nat × List Value)} {d : Nat} {h : pm_H} (hd : 1 ≤ d) (I : pw_I h) (wd : Int) (hwd1 : 0 ≤ wd) (hwd2 : wd ≤ 10009) : pw X d h 78 0 [some (pw_i wd), some (.ref 115), none] [] (fun h' v => h = h' ∧ ∃ a : Int, v = .inl (some (pw_i a)) ∧ (-2147483648) ≤ a ∧ a ≤ 2147483647 ∧ (a = if 10000 ≤ wd then pe_F h 99 10 (wd - 10000) else wd)) := by
  have E : pm_ent 78 = some (2, 3, 7, 0, pmc_78) := rfl
  refine pw_ld E (pc' := 1) (st' := [pw_i wd]) rfl (fun _ => rfl) ?_
  refine pw_sip E (pc' := 4) rfl rfl (by decide) ?_
  refine pw_sub E (pc' := 5) rfl rfl ?_
  refine pw_istn E (pc' := 6) (ls' := [some (pw_i wd), some (.ref 115), some (pw_i (wd - 10000))]) rfl rfl rfl rfl ?_
  refine pw_ld E (pc' := 7) (st' := [pw_i (wd - 10000)]) rfl (fun _ => rfl) ?_
  refine pw_if E (pc' := 12) rfl (by decide) (by omega) (by omega) ?_ ?_
  · intro hc1
    change (0 : Int) ≤ wd - 10000 at hc1
    refine pw_ld E (pc' := 13) (st' := [pw_i (wd - 10000)]) rfl (fun _ => rfl) ?_
    refine pw_ld E (pc' := 14) (st' := [.ref 115, pw_i (wd - 10000)]) rfl (fun _ => rfl) ?_
    obtain ⟨z2l, z2h, z2n, -⟩ := pw_arr (c := 99) I rfl
    refine pw_alen E (pc' := 15) rfl (pw_rowI z2h rfl) rfl rfl ?_
    rw [z2n]
    refine pw_if2 E (pc' := 24) rfl (by decide) (by omega) (by omega) (by decide) (by decide) ?_ ?_
    · intro hc3
      change (10 : Nat) ≤ wd - 10000 at hc3
      exfalso; omega
    · intro hc4
      change ¬ ((10 : Nat) ≤ wd - 10000) at hc4
      refine pw_ld E (pc' := 19) (st' := [.ref 115]) rfl (fun _ => rfl) ?_
      refine pw_ld E (pc' := 20) (st' := [pw_i (wd - 10000), .ref 115]) rfl (fun _ => rfl) ?_
      refine pw_ald2 I E (c := 99) (pc' := 21) rfl rfl rfl (by decide) rfl (by decide) (by omega) (by omega) rfl (fun hf5a hf5b => ?_)
      refine pw_goto E (pc' := 25) rfl (by decide) ?_
      refine pw_iret E rfl ?_
      exact ⟨rfl, ⟨_, rfl, by omega, by omega, by rw [if_pos (by omega)]; unfold pe_F; rw [if_pos ⟨by omega, by omega⟩]⟩⟩
  · intro hc6
    change ¬ ((0 : Int) ≤ wd - 10000) at hc6
    refine pw_ld E (pc' := 11) (st' := [pw_i wd]) rfl (fun _ => rfl) ?_
    refine pw_iret E rfl ?_
    exact ⟨rfl, ⟨_, rfl, by omega, by omega, (if_neg (by omega)).symm⟩⟩
set_option maxHeartbeats 4000000 in
theorem cm_75_99x {X : List (Nat × List Value)} {d : Nat} {h : pm_H} (hd : 3 ≤ d) (I : pw_I h) (c : Nat) (hc : pw_Sc c) (li : Int) (hli1 : 0 ≤ li) (hli2 : li ≤ 3) (cd : List Int) (hp0 : px_LC h c li cd) (hp1 : pe_ok 9 cd) (hp2 : pe_h cd = 1) : pw X d h 75 0 [some (.ref (16 + c)), some (pw_i li), some (.ref 115), none, none, none] [] (fun h' v => pw_I h' ∧ pw_E [c + 5] h h' ∧ ∃ a : Int, v = .inl (some (pw_i a)) ∧ (-2147483648) ≤ a ∧ a ≤ 2147483647 ∧ (a = (pe_s (pe_F h 99 10) cd).getD 0 0)) := by
  have E : pm_ent 75 = some (3, 6, 7, 0, pmc_75) := rfl
  have E0 : pw_E [c + 5] h h := pw_E.rf _ _
  have hcc := hc
  unfold pw_Sc at hcc
  have hLC := hp0
  obtain ⟨l1, l2, l3, l4, l5⟩ := hp0
  obtain ⟨Fs, Fv, F1, F2, -, Fq, Fl, rfl, Fh, Fn, Fi⟩ := pw_fld (c := c) (k := 0) I (pw_Sc_o hc) rfl
  have Fc := px_cqE F1 F2
  have Fm := px_cnE Fc Fh
  have Flen := (List.getElem?_eq_some_iff.mp F1).1
  have Fle2 : px_cq h c < h.length := by rw [Fc]; exact (List.getElem?_eq_some_iff.mp Fh).1
  refine pw_ld E (pc' := 1) (st' := [pw_i 0]) rfl (fun _ => rfl) ?_
  refine pw_istn E (pc' := 2) (ls' := [some (.ref (16 + c)), some (pw_i li), some (.ref 115), some (pw_i 0), none, none]) rfl rfl rfl rfl ?_
  refine pw_ld E (pc' := 3) (st' := [.ref (16 + c)]) rfl (fun _ => rfl) ?_
  refine pw_getR (b := 16 + (c + 2)) I E (c := c) (k := 3) (pc' := 6) rfl rfl (pw_Sc_o hc) rfl rfl rfl rfl ?_
  refine pw_ld E (pc' := 7) (st' := [pw_i li, .ref (16 + (c + 2))]) rfl (fun _ => rfl) ?_
  refine pw_ald2 I E (c := c + 2) (pc' := 8) rfl rfl (pw_Sc_2 hc) (by decide) rfl (by decide) (by omega) (by omega) rfl (fun hf1a hf1b => ?_)
  refine pw_ist E (pc' := 10) (ls' := [some (.ref (16 + c)), some (pw_i li), some (.ref 115), some (pw_i 0), some (pw_i (pw_g h (c + 2) (li.toNat))), none]) rfl rfl rfl rfl ?_
  have L10 : ∀ (n10 : Nat) (k10_3 : Int) (k10_4 : Int) (k10_5 : Option Value) (gh10 : pm_H), pw_I gh10 → pw_E [c + 5] h gh10 → 0 ≤ k10_3 → k10_3 ≤ 40 → 0 ≤ k10_4 → k10_4 ≤ 1000 → k10_3 = pe_h (px_st (fun j => px_cw h c ((pw_g h (c + 2) li.toNat).toNat + j)) (k10_4 - (pw_g h (c + 2) li.toNat)).toNat) → pe_s (pe_F h 99 10) (px_st (fun j => px_cw h c ((pw_g h (c + 2) li.toNat).toNat + j)) (k10_4 - (pw_g h (c + 2) li.toNat)).toNat) = px_st (pw_g gh10 (c + 5)) (k10_3).toNat → (pw_g h (c + 2) li.toNat) ≤ k10_4 → k10_4 ≤ (pw_g h (c + 3) li.toNat) → (1000 - k10_4).toNat = n10 → pw X d gh10 75 10 [some (.ref (16 + c)), some (pw_i li), some (.ref 115), some (pw_i k10_3), some (pw_i k10_4), k10_5] [] (fun h' v => pw_I h' ∧ pw_E [c + 5] h h' ∧ ∃ a : Int, v = .inl (some (pw_i a)) ∧ (-2147483648) ≤ a ∧ a ≤ 2147483647 ∧ (a = (pe_s (pe_F h 99 10) cd).getD 0 0)) := by
    intro n10
    induction n10 using Nat.strongRecOn with
    | ind n10 ih10 =>
      intro k10_3 k10_4 k10_5 gh10 I10 E10 k10_3a k10_3b k10_4a k10_4b hx10_0 hx10_1 hx10_2 hx10_3 hm10
      refine pw_ld E (pc' := 12) (st' := [pw_i k10_4]) rfl (fun _ => rfl) ?_
      refine pw_ld E (pc' := 13) (st' := [.ref (16 + c), pw_i k10_4]) rfl (fun _ => rfl) ?_
      have hS3 : pw_g gh10 (c + 3) li.toNat = (pw_g h (c + 3) li.toNat) := pw_Eg (c := c + 3) I E10 (pw_Sc_3 hc) (px_nc (by omega)) _
      obtain ⟨D1, D2, D3⟩ := px_cdE E10 Flen (fun hm => by rw [List.mem_singleton] at hm; omega) Fle2 (fun hm => by rw [List.mem_singleton] at hm; omega)
      refine pw_getR (b := 16 + (c + 3)) I10 E (c := c) (k := 4) (pc' := 16) rfl rfl (pw_Sc_o hc) rfl rfl rfl rfl ?_
      refine pw_ld E (pc' := 17) (st' := [pw_i li, .ref (16 + (c + 3)), pw_i k10_4]) rfl (fun _ => rfl) ?_
      refine pw_ald2 I10 E (c := c + 3) (pc' := 18) rfl rfl (pw_Sc_3 hc) (by decide) rfl (by decide) (by omega) (by omega) rfl (fun hf2a hf2b => ?_)
      refine pw_if2 E (pc' := 84) rfl (by decide) (by omega) (by omega) (by omega) (by omega) ?_ ?_
      · intro hc3
        change pw_g gh10 (c + 3) (li.toNat) ≤ k10_4 at hc3
        refine pw_ld E (pc' := 85) (st' := [.ref (16 + c)]) rfl (fun _ => rfl) ?_
        refine pw_getR (b := 16 + (c + 5)) I10 E (c := c) (k := 6) (pc' := 88) rfl rfl (pw_Sc_o hc) rfl rfl rfl rfl ?_
        refine pw_ld E (pc' := 89) (st' := [pw_i 0, .ref (16 + (c + 5))]) rfl (fun _ => rfl) ?_
        refine pw_ald2 I10 E (c := c + 5) (pc' := 90) rfl rfl (pw_Sc_5 hc) (by decide) rfl (by decide) (by omega) (by omega) rfl (fun hf4a hf4b => ?_)
        refine pw_iret E rfl ?_
        have eE : k10_4 = (pw_g h (c + 3) li.toNat) := by omega
        rw [eE, l4] at hx10_0 hx10_1
        rw [show k10_3 = 1 by omega] at hx10_1
        have hpv : pw_g gh10 (c + 5) (Int.toNat 0) = (pe_s (pe_F h 99 10) cd).getD 0 0 := by rw [hx10_1]; rfl
        exact ⟨I10, E10, ⟨_, rfl, by omega, by omega, hpv⟩⟩
      · intro hc5
        change ¬ (pw_g gh10 (c + 3) (li.toNat) ≤ k10_4) at hc5
        refine pw_ld E (pc' := 23) (st' := [pw_i k10_4]) rfl (fun _ => rfl) ?_
        refine pw_ld E (pc' := 24) (st' := [.ref (16 + c), pw_i k10_4]) rfl (fun _ => rfl) ?_
        obtain ⟨q6f, _, q61, q62, -, q6, q6l, rfl, q6h, q6n, q6i⟩ := pw_fld (c := c) (k := 0) I10 (pw_Sc_o hc) rfl
        refine pw_get0 E (c := c) (pc' := 27) rfl rfl q61 q62 rfl rfl ?_
        refine pw_alen E (pc' := 28) rfl (pw_rowI q6h rfl) rfl rfl ?_
        have Gc := px_cqE q61 q62
        have Gm := px_cnE Gc q6h
        refine pw_if2 E (pc' := 84) rfl (by decide) (by omega) (by omega) (by omega) (by omega) ?_ ?_
        · intro hc7
          change (q6l.length : Int) ≤ k10_4 at hc7
          refine pw_ld E (pc' := 85) (st' := [.ref (16 + c)]) rfl (fun _ => rfl) ?_
          refine pw_getR (b := 16 + (c + 5)) I10 E (c := c) (k := 6) (pc' := 88) rfl rfl (pw_Sc_o hc) rfl rfl rfl rfl ?_
          refine pw_ld E (pc' := 89) (st' := [pw_i 0, .ref (16 + (c + 5))]) rfl (fun _ => rfl) ?_
          refine pw_ald2 I10 E (c := c + 5) (pc' := 90) rfl rfl (pw_Sc_5 hc) (by decide) rfl (by decide) (by omega) (by omega) rfl (fun hf8a hf8b => ?_)
          refine pw_iret E rfl ?_
          exfalso
          omega
        · intro hc9
          change ¬ ((q6l.length : Int) ≤ k10_4) at hc9
          refine pw_ld E (pc' := 32) (st' := [.ref (16 + c)]) rfl (fun _ => rfl) ?_
          refine pw_get0 E (c := c) (pc' := 35) rfl rfl q61 q62 rfl rfl ?_
          refine pw_ld E (pc' := 37) (st' := [pw_i k10_4, .ref (16 + q6)]) rfl (fun _ => rfl) ?_
          refine pe_cald E (pc' := 38) rfl q6h q6i rfl q6n (by omega) (by omega) rfl (fun x10 hx10a hx10b hx10r => ?_)
          refine pw_ist E (pc' := 40) (ls' := [some (.ref (16 + c)), some (pw_i li), some (.ref 115), some (pw_i k10_3), some (pw_i k10_4), some (pw_i x10)]) rfl rfl rfl rfl ?_
          have hx : x10 = px_cw h c ((pw_g h (c + 2) li.toNat).toNat + (k10_4 - (pw_g h (c + 2) li.toNat)).toNat) := by
            rw [← D2, show (pw_g h (c + 2) li.toNat).toNat + (k10_4 - (pw_g h (c + 2) li.toNat)).toNat = (k10_4).toNat by omega]
            unfold px_cw
            rw [Gc]
            exact hx10r
          have hok := hp1
          rw [← l4] at hok
          have hok := pe_tail (m := (k10_4 - (pw_g h (c + 2) li.toNat)).toNat + 1) _ (by omega) hok
          rw [px_stS, ← hx] at hok
          obtain ⟨-, hk1, hk2, hk3, hk4, hk5⟩ := hok
          refine pw_ld E (pc' := 42) (st' := [pw_i x10]) rfl (fun _ => rfl) ?_
          refine pw_if E (pc' := 57) rfl (by decide) (by omega) (by omega) ?_ ?_
          · intro hc11
            change (0 : Int) ≤ x10 at hc11
            refine pw_ld E (pc' := 58) (st' := [pw_i k10_3]) rfl (fun _ => rfl) ?_
            refine pw_bip E (pc' := 60) rfl rfl (by decide) ?_
            refine pw_if2 E (pc' := 78) rfl (by decide) (by omega) (by omega) (by decide) (by decide) ?_ ?_
            · intro hc12
              change (40 : Int) ≤ k10_3 at hc12
              refine pw_inc E (pc' := 81) (ls' := [some (.ref (16 + c)), some (pw_i li), some (.ref 115), some (pw_i k10_3), some (pw_i (k10_4 + 1)), some (pw_i x10)]) rfl rfl rfl rfl ?_
              exfalso
              omega
            · intro hc13
              change ¬ ((40 : Int) ≤ k10_3) at hc13
              refine pw_ld E (pc' := 64) (st' := [.ref (16 + c)]) rfl (fun _ => rfl) ?_
              refine pw_getR (b := 16 + (c + 5)) I10 E (c := c) (k := 6) (pc' := 67) rfl rfl (pw_Sc_o hc) rfl rfl rfl rfl ?_
              refine pw_ld E (pc' := 68) (st' := [pw_i k10_3, .ref (16 + (c + 5))]) rfl (fun _ => rfl) ?_
              refine pw_ld E (pc' := 70) (st' := [pw_i x10, pw_i k10_3, .ref (16 + (c + 5))]) rfl (fun _ => rfl) ?_
              refine pw_ld E (pc' := 71) (st' := [.ref 115, pw_i x10, pw_i k10_3, .ref (16 + (c + 5))]) rfl (fun _ => rfl) ?_
              refine pw_call (m' := 78) (As := [pw_i x10, .ref 115]) (rest := [pw_i k10_3, .ref (16 + (c + 5))]) (ls'' := [some (pw_i x10), some (.ref 115), none]) (Nat.le_trans (by decide) hd) E rfl (fun _ => pw_iS rfl rfl rfl) (rfl : pm_ent 78 = some (2, 3, 7, 0, pmc_78)) rfl rfl (cm_78_99x (pw_dp hd (by decide)) I10 (x10) (by omega) (by omega)) ?_
              rintro u15 v14 ⟨rfl, x16, rfl, hx16a, hx16b, hx16r⟩
              refine ⟨_, rfl, ?_⟩
              show pw X d gh10 75 74 [some (.ref (16 + c)), some (pw_i li), some (.ref 115), some (pw_i k10_3), some (pw_i k10_4), some (pw_i x10)] [pw_i x16, pw_i k10_3, .ref (16 + (c + 5))] _
              change x16 = if 10000 ≤ x10 then pe_F gh10 99 10 (x10 - 10000) else x10 at hx16r
              refine pw_ast0 I10 E (c := c + 5) (pc' := 75) rfl rfl (pw_Sc_5 hc) (by decide) rfl (by decide) (by omega) (by omega) rfl (by omega) (by omega) (by omega) (by omega) rfl ?_
              intro h17I h17E
              generalize h17w : pw_w gh10 (c + 5) (k10_3.toNat) (pw_i x16) = h17 at h17I h17E ⊢
              have h17F := E10.tr (h17E.wk (W' := [c + 5]) (by first | rfl | simp))
              refine pw_inc E (pc' := 78) (ls' := [some (.ref (16 + c)), some (pw_i li), some (.ref 115), some (pw_i (k10_3 + 1)), some (pw_i k10_4), some (pw_i x10)]) rfl rfl rfl rfl ?_
              refine pw_inc E (pc' := 81) (ls' := [some (.ref (16 + c)), some (pw_i li), some (.ref 115), some (pw_i (k10_3 + 1)), some (pw_i (k10_4 + 1)), some (pw_i x10)]) rfl rfl rfl rfl ?_
              have e1 : (k10_4 + 1 - (pw_g h (c + 2) li.toNat)).toNat = (k10_4 - (pw_g h (c + 2) li.toNat)).toNat + 1 := by omega
              have hh : pe_h (px_st (fun j => px_cw h c ((pw_g h (c + 2) li.toNat).toNat + j)) (k10_4 + 1 - (pw_g h (c + 2) li.toNat)).toNat) = pe_h (px_st (fun j => px_cw h c ((pw_g h (c + 2) li.toNat).toNat + j)) (k10_4 - (pw_g h (c + 2) li.toNat)).toNat) + (if 0 ≤ x10 then 1 else if x10 = -8 then 0 else -1) := by rw [e1, px_stS, ← hx]; rfl
              rw [if_pos (by omega)] at hh
              have oA : k10_3 + 1 = pe_h (px_st (fun j => px_cw h c ((pw_g h (c + 2) li.toNat).toNat + j)) (k10_4 + 1 - (pw_g h (c + 2) li.toNat)).toNat) := by omega
              have hFe : pe_F gh10 99 10 = (pe_F h 99 10) := by unfold pe_F; funext j; rw [pw_Eg (c := 99) I E10 rfl (px_nc (by omega)) _]
              rw [hFe] at hx16r
              have hv : pw_g h17 (c + 5) (k10_3).toNat = x16 := by rw [← h17w]; exact pw_g_eqA I10 (pw_Sc_5 hc) (by omega) (by omega) (by omega)
              have oB : pe_s (pe_F h 99 10) (px_st (fun j => px_cw h c ((pw_g h (c + 2) li.toNat).toNat + j)) (k10_4 + 1 - (pw_g h (c + 2) li.toNat)).toNat) = px_st (pw_g h17 (c + 5)) (k10_3 + 1).toNat := by
                rw [e1, px_stS, ← hx, show (k10_3 + 1).toNat = (k10_3).toNat + 1 by omega]
                show pe_1 (pe_F h 99 10) x10 (pe_s (pe_F h 99 10) (px_st (fun j => px_cw h c ((pw_g h (c + 2) li.toNat).toNat + j)) (k10_4 - (pw_g h (c + 2) li.toNat)).toNat)) = _
                rw [pe_num (by omega), hx10_1, pe_push (w := pw_g gh10 (c + 5)) (fun j hj => by rw [← h17w]; exact pw_g_ne (fun q => hj (by omega))), hv, hx16r]
              refine pw_goto E (pc' := 10) rfl (by decide) ?_
              exact ih10 _ (by omega) (k10_3 + 1) (k10_4 + 1) (some (pw_i x10)) h17 h17I h17F (by omega) (by omega) (by omega) (by omega) oA oB (by omega) (by omega) rfl
          · intro hc18
            change ¬ ((0 : Int) ≤ x10) at hc18
            refine pw_ld E (pc' := 46) (st' := [.ref (16 + c)]) rfl (fun _ => rfl) ?_
            refine pw_ld E (pc' := 48) (st' := [pw_i x10, .ref (16 + c)]) rfl (fun _ => rfl) ?_
            refine pw_ineg E (pc' := 49) rfl rfl ?_
            refine pw_ld E (pc' := 50) (st' := [pw_i k10_3, pw_i (-x10), .ref (16 + c)]) rfl (fun _ => rfl) ?_
            obtain ⟨f19l, f19h, -⟩ := pw_obj (c := c) I10 (pw_Sc_o hc)
            refine pw_call (m' := 76) (As := [.ref (16 + c), pw_i (-x10), pw_i k10_3]) (rest := []) (ls'' := [some (.ref (16 + c)), some (pw_i (-x10)), some (pw_i k10_3)]) (Nat.le_trans (by decide) hd) E rfl (fun _ => pw_iV rfl rfl rfl rfl (pw_cellI f19h rfl)) (rfl : pm_ent 76 = some (3, 3, 7, 0, pmc_76)) rfl rfl (cm_76_x (pw_dp hd (by decide)) I10 c hc (-x10) (by omega) (by omega) (k10_3) (by omega) (by omega) (pe_F h 99 10) (by omega) (by omega)) ?_
            rintro h20 v21 ⟨h20I, h20E, x22, rfl, hx22a, hx22b, hx22r⟩
            refine ⟨_, rfl, ?_⟩
            have h20F := E10.tr (h20E.wk (W' := [c + 5]) (by first | rfl | simp))
            show pw X d h20 75 53 [some (.ref (16 + c)), some (pw_i li), some (.ref 115), some (pw_i k10_3), some (pw_i k10_4), some (pw_i x10)] [pw_i x22] _
            change (((-x10) = 8 ∧ x22 = k10_3) ∨ ((-x10) ≠ 8 ∧ x22 = k10_3 - 1)) ∧ px_st (pw_g h20 (c + 5)) x22.toNat = pe_1 (pe_F h 99 10) (-(-x10)) (px_st (pw_g gh10 (c + 5)) k10_3.toNat) at hx22r
            refine pw_istn E (pc' := 54) (ls' := [some (.ref (16 + c)), some (pw_i li), some (.ref 115), some (pw_i x22), some (pw_i k10_4), some (pw_i x10)]) rfl rfl rfl rfl ?_
            refine pw_goto E (pc' := 78) rfl (by decide) ?_
            refine pw_inc E (pc' := 81) (ls' := [some (.ref (16 + c)), some (pw_i li), some (.ref 115), some (pw_i x22), some (pw_i (k10_4 + 1)), some (pw_i x10)]) rfl rfl rfl rfl ?_
            have e1 : (k10_4 + 1 - (pw_g h (c + 2) li.toNat)).toNat = (k10_4 - (pw_g h (c + 2) li.toNat)).toNat + 1 := by omega
            have hh : pe_h (px_st (fun j => px_cw h c ((pw_g h (c + 2) li.toNat).toNat + j)) (k10_4 + 1 - (pw_g h (c + 2) li.toNat)).toNat) = pe_h (px_st (fun j => px_cw h c ((pw_g h (c + 2) li.toNat).toNat + j)) (k10_4 - (pw_g h (c + 2) li.toNat)).toNat) + (if 0 ≤ x10 then 1 else if x10 = -8 then 0 else -1) := by rw [e1, px_stS, ← hx]; rfl
            rw [if_neg (by omega)] at hh
            have oA : x22 = pe_h (px_st (fun j => px_cw h c ((pw_g h (c + 2) li.toNat).toNat + j)) (k10_4 + 1 - (pw_g h (c + 2) li.toNat)).toNat) := by
              by_cases z : x10 = -8
              · rw [if_pos z] at hh; omega
              · rw [if_neg z] at hh; omega
            have oB : pe_s (pe_F h 99 10) (px_st (fun j => px_cw h c ((pw_g h (c + 2) li.toNat).toNat + j)) (k10_4 + 1 - (pw_g h (c + 2) li.toNat)).toNat) = px_st (pw_g h20 (c + 5)) (x22).toNat := by rw [e1, px_stS, ← hx]; show pe_1 (pe_F h 99 10) x10 (pe_s (pe_F h 99 10) (px_st (fun j => px_cw h c ((pw_g h (c + 2) li.toNat).toNat + j)) (k10_4 - (pw_g h (c + 2) li.toNat)).toNat)) = _; rw [hx10_1, hx22r.2, Int.neg_neg]
            refine pw_goto E (pc' := 10) rfl (by decide) ?_
            exact ih10 _ (by omega) (x22) (k10_4 + 1) (some (pw_i x10)) h20 h20I h20F (by omega) (by omega) (by omega) (by omega) oA oB (by omega) (by omega) rfl
  exact L10 _ (0) (pw_g h (c + 2) (li.toNat)) (none) h I E0 (by omega) (by omega) (by omega) (by omega) (by rw [Int.sub_self]; rfl) (by rw [Int.sub_self]; rfl) (by omega) (by omega) rfl
end
section
/-! texts: what a Script keeps -/
theorem px_nc5 {c x : Nat} (hc : pw_Sc c) (h0 : 30 ≤ x) (h1 : x ≤ 36) : [c, c + 1, c + 2, c + 3, c + 4].contains x = false := by
  have hx : x = 30 ∨ x = 31 ∨ x = 32 ∨ x = 33 ∨ x = 34 ∨ x = 35 ∨ x = 36 := by omega
  rcases hc with rfl | rfl | rfl | rfl | rfl | rfl | rfl | rfl <;> rcases hx with rfl | rfl | rfl | rfl | rfl | rfl | rfl <;> rfl
/-- the first n of four rows are copied -/
def px_c4 (h0 h : pm_H) (c n : Nat) : Prop := ∀ j : Nat, j < n → pw_g h (c + 1) j = pw_g h0 31 j ∧ pw_g h (c + 2) j = pw_g h0 32 j ∧ pw_g h (c + 3) j = pw_g h0 33 j ∧ pw_g h (c + 4) j = pw_g h0 34 j
theorem px_c4.S {h0 h h' : pm_H} {c n : Nat} (H : px_c4 h0 h c n) (o : ∀ x j : Nat, c + 1 ≤ x → x ≤ c + 4 → j ≠ n → pw_g h' x j = pw_g h x j) (e1 : pw_g h' (c + 1) n = pw_g h0 31 n) (e2 : pw_g h' (c + 2) n = pw_g h0 32 n) (e3 : pw_g h' (c + 3) n = pw_g h0 33 n) (e4 : pw_g h' (c + 4) n = pw_g h0 34 n) : px_c4 h0 h' c (n + 1) := by
  intro j hj
  by_cases q : j = n
  · subst q
    exact ⟨e1, e2, e3, e4⟩
  · obtain ⟨a1, a2, a3, a4⟩ := H j (by omega)
    exact ⟨(o _ j (by omega) (by omega) q).trans a1, (o _ j (by omega) (by omega) q).trans a2, (o _ j (by omega) (by omega) q).trans a3, (o _ j (by omega) (by omega) q).trans a4⟩
theorem px_cq_E {W : List Nat} {h h' : pm_H} {c : Nat} (E : pw_E W h h') (l1 : c < h.length) (n1 : c ∉ W) : px_cq h' c = px_cq h c := by
  have e1 : h'[c]? = h[c]? := E.2.1 c l1 n1
  unfold px_cq
  rw [e1]
theorem px_cq_w0 {h : pm_H} {c q cj : Nat} {fs : List Value} (e : h[c]? = some (.inr (cj, fs))) (hf : 0 < fs.length) : px_cq (pw_w h c 0 (.ref (16 + q))) c = q := by
  rw [pw_w_obj e]
  refine px_cqE (cj := cj) (fs := fs.set 0 (.ref (16 + q))) ?_ ?_
  · rw [List.getElem?_set, if_pos rfl, if_pos (List.getElem?_eq_some_iff.mp e).1]
  · rw [List.getElem?_set, if_pos rfl, if_pos hf]
theorem px_cq_w1 {h : pm_H} {c k cj : Nat} {v : Value} {fs : List Value} (e : h[c]? = some (.inr (cj, fs))) (hk : k ≠ 0) : px_cq (pw_w h c k v) c = px_cq h c := by
  rw [pw_w_obj e]
  unfold px_cq
  rw [List.getElem?_set, if_pos rfl, if_pos (List.getElem?_eq_some_iff.mp e).1, e]
  show (match ((fs.set k v) : List Value)[0]? with
    | some (Value.ref r) => r - 16
    | _ => 0) = _
  rw [List.getElem?_set, if_neg hk]
  rfl
/-- what a Script says of a line -/
def px_SL (wr : Int) (h : pm_H) (c : Nat) (th : Int → Int) (C : Int → List Int) (N : Int → Int) (k : Int) : Prop := pw_g h (c + 1) k.toNat = th k ∧ (th k = 0 ∨ (th k = 1 ∧ px_LC h c k (C k) ∧ (0 ≤ pt_FO wr k → pw_g h (c + 4) k.toNat = N k)))
def px_SC (wr : Int) (h : pm_H) (c : Nat) (th : Int → Int) (C : Int → List Int) (N : Int → Int) : Prop := ∀ k : Int, 0 ≤ k → k ≤ 3 → px_SL wr h c th C N k
/-- a copied row begins as the row -/
theorem px_cwT {h h2 : pm_H} {c n q j : Nat} {l : List Value} (e1 : h[36]? = some (.inl (0, l))) (e2 : h2[q]? = some (.inl (0, l.take n))) (cq : px_cq h2 c = q) (hj : j < n) : px_cw h2 c j = pw_g h 36 j := by
  unfold px_cw pw_g pw_at
  rw [cq, e2, e1]
  show pw_iv ((l.take n)[j]?) = pw_iv (l[j]?)
  rw [List.getElem?_take, if_pos hj]
/-- the copy says what the Reader's says -/
theorem px_ML.SC {wr : Int} {h h2 : pm_H} {c : Nat} {l : List Value} {th : Int → Int} {C : Int → List Int} {N : Int → Int} (H : px_ML wr h th C N) (n0 : 0 ≤ pw_g h 30 1) (hl : l.length = 1000) (n1 : pw_g h 30 1 ≤ 999) (hq : 170 ≤ h.length) (e1 : h[36]? = some (.inl (0, l))) (e2 : h2[h.length]? = some (.inl (0, l.take (pw_g h 30 1).toNat))) (cq : px_cq h2 c = h.length) (c4 : px_c4 h h2 c 4) : px_SC wr h2 c th C N := by
  intro k k0 k3
  obtain ⟨m1, m2⟩ := H k k0 k3
  obtain ⟨a1, a2, a3, a4⟩ := c4 k.toNat (by omega)
  refine ⟨a1.trans m1, m2.imp id (fun ⟨b1, b2, b3, b4, b5, b6⟩ => ⟨b1, ⟨by rw [a2]; exact b2, by rw [a2, a3]; exact b3, ?_, ?_, Or.inr (by rw [cq]; exact hq)⟩, fun z => a4.trans (b6 z)⟩)⟩
  · rw [px_cnE cq e2, List.length_take, a3]
    omega
  · rw [a2, a3, ← b5]
    exact px_st_cg _ (fun j hj => px_cwT e1 e2 cq (by omega))
/-- a Script stays -/
theorem px_SC.E {wr : Int} {h h' : pm_H} {c : Nat} {th : Int → Int} {C : Int → List Int} {N : Int → Int} (H : px_SC wr h c th C N) (e : h'[c]? = h[c]?) (e2 : h'[px_cq h c]? = h[px_cq h c]?) (o : ∀ x j : Nat, c + 1 ≤ x → x ≤ c + 4 → pw_g h' x j = pw_g h x j) : px_SC wr h' c th C N := by
  intro k k0 k3
  have q1 : px_cq h' c = px_cq h c := by unfold px_cq; rw [e]
  have q2 : ∀ j : Nat, px_cw h' c j = px_cw h c j := fun j => by
    unfold px_cw pw_g pw_at
    rw [q1, e2]
  have q3 : px_cn h' c = px_cn h c := by
    unfold px_cn
    rw [q1, e2]
  obtain ⟨m1, m2⟩ := H k k0 k3
  refine ⟨(o _ _ (by omega) (by omega)).trans m1, m2.imp id (fun ⟨b1, ⟨b2, b3, b4, b5, b7⟩, b6⟩ => ⟨b1, ⟨?_, ?_, ?_, ?_, ?_⟩, fun z => (o _ _ (by omega) (by omega)).trans (b6 z)⟩)⟩
  · rw [o _ _ (by omega) (by omega)]; exact b2
  · rw [o _ _ (by omega) (by omega), o _ _ (by omega) (by omega)]; exact b3
  · rw [o _ _ (by omega) (by omega), q3]; exact b4
  · rw [o _ _ (by omega) (by omega), o _ _ (by omega) (by omega), ← b5]
    exact px_st_cg _ (fun j _ => q2 _)
  · rw [q1]; exact b7
theorem px_len {h : pm_H} (I : pw_I h) : 170 ≤ h.length := by
  obtain ⟨q, h1, -⟩ := I.1 169 _ (rfl : pw_T[169]? = some _)
  have := (List.getElem?_eq_some_iff.mp h1).1
  omega
end
section
/-! texts: what the model keeps of a writer -/
def pt_O8 (h g : pm_H) : Prop := ∀ j : Nat, pw_g g 158 j = pw_g h 158 j ∧ pw_g g 159 j = pw_g h 159 j ∧ pw_g g 160 j = pw_g h 160 j
def pt_WS (g : pm_H) (i : Int) (th : Int → Int) (C : Int → List Int) (N : Int → Int) : Prop := ((th 0 = 1 ∧ 0 ≤ pw_g g 157 i.toNat ∧ pt_SB g (1100 * (5 + i)) (pw_g g 157 i.toNat) (C 0)) ∨ (th 0 = 0 ∧ pw_g g 157 i.toNat < 0)) ∧ ((th 1 = 1 ∧ pw_g g 158 i.toNat = N 1) ∨ (th 1 = 0 ∧ pw_g g 158 i.toNat = 0)) ∧ ((th 2 = 1 ∧ pw_g g 159 i.toNat = N 2) ∨ (th 2 = 0 ∧ pw_g g 159 i.toNat = 11)) ∧ ((th 3 = 1 ∧ 0 ≤ pw_g g 160 i.toNat ∧ pw_g g 160 i.toNat = N 3) ∨ (th 3 = 0 ∧ pw_g g 160 i.toNat < 0))
theorem pt_MW.wri {g g' : pm_H} {i : Int} {th : Int → Int} {C : Int → List Int} {N : Int → Int} (H : pt_MW g th C N) (h0 : 0 ≤ i) (hc : pw_g g 125 32 ≤ 1100) (h7 : pw_KC g g' (5 + i) (pw_g g 125 32)) (a0 : pw_g g' 157 i.toNat = pw_g g 161 0) (a1 : (0 ≤ pw_g g 161 1 → pw_g g' 158 i.toNat = pw_g g 161 1) ∧ (pw_g g 161 1 < 0 → pw_g g' 158 i.toNat = 0)) (a2 : (0 ≤ pw_g g 161 2 → pw_g g' 159 i.toNat = pw_g g 161 2) ∧ (pw_g g 161 2 < 0 → pw_g g' 159 i.toNat = 11)) (a3 : pw_g g' 160 i.toNat = pw_g g 161 3) : pt_WS g' i th C N := by
  refine ⟨?_, ?_, ?_, ?_⟩
  · rw [a0]
    rcases H 0 (by decide) (by decide) with ⟨t, b, s, -⟩ | ⟨t, b⟩
    · exact Or.inl ⟨t, b, (s rfl).to (by omega) b hc h7⟩
    · exact Or.inr ⟨t, b⟩
  · rcases H 1 (by decide) (by decide) with ⟨t, b, -, s⟩ | ⟨t, b⟩
    · exact Or.inl ⟨t, (a1.1 b).trans (s (by decide))⟩
    · exact Or.inr ⟨t, a1.2 b⟩
  · rcases H 2 (by decide) (by decide) with ⟨t, b, -, s⟩ | ⟨t, b⟩
    · exact Or.inl ⟨t, (a2.1 b).trans (s (by decide))⟩
    · exact Or.inr ⟨t, a2.2 b⟩
  · rw [a3]
    rcases H 3 (by decide) (by decide) with ⟨t, b, -, s⟩ | ⟨t, b⟩
    · exact Or.inl ⟨t, b, s (by decide)⟩
    · exact Or.inr ⟨t, b⟩
/-- the others stay -/
def pt_LV (h g : pm_H) (i : Int) : Prop := (∀ j : Nat, j < 16 → pw_g g 145 j = pw_g h 145 j) ∧ (∀ j : Nat, (j < 4400 ∨ 5500 ≤ j) → ((j : Int) < 1100 * (5 + i) ∨ 1100 * (5 + i) + 1100 ≤ j) → pw_g g 146 j = pw_g h 146 j ∧ pw_g g 147 j = pw_g h 147 j) ∧ ∀ j : Nat, j ≠ i.toNat → pw_g g 157 j = pw_g h 157 j ∧ pw_g g 158 j = pw_g h 158 j ∧ pw_g g 159 j = pw_g h 159 j ∧ pw_g g 160 j = pw_g h 160 j
end
