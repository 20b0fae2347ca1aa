/-! a writer's line of the model, exactly -/
set_option maxHeartbeats 4000000 in
theorem cm_279_t {X : List (Nat × List Value)} {d : Nat} {h : pm_H} (hd : 33 ≤ d) (I : pw_I h) (n : Nat) (K V P : Nat → Int) (th : Int → Int) (C : Int → List Int) (N : Int → Int) (hp0 : pw_A n h) (hp1 : pw_g h 125 32 ≤ pw_g h 125 7) (hp2 : pt_TK K V P 1 h) (hp3 : ∀ j : Nat, j < n → K j = 2 → 0 ≤ V j ∧ V j ≤ 9999) (hp4 : pw_g h 125 8 = 0) (hp5 : K (pw_g h 125 7).toNat ≠ 0) (hp6 : pt_MW h th C N) : pw X d h 279 0 [some (.ref 141), none, none] [] (fun h' v => pw_I h' ∧ pw_E [125, 146, 147, 161] h h' ∧ (pt_TK K V P 1 h' ∧ ((pw_g h' 125 8 ≠ 0 ∧ (pt_line 1 K V P th (pw_g h 125 7).toNat).1 = pw_g h' 125 8) ∨ (pw_g h' 125 8 = 0 ∧ (pt_line 1 K V P th (pw_g h 125 7).toNat).1 = 0 ∧ pw_g h' 125 7 = (pt_line 1 K V P th (pw_g h 125 7).toNat).2.1 ∧ pt_MW h' (fun k => if k = (pt_line 1 K V P th (pw_g h 125 7).toNat).2.2.1 then 1 else th k) (fun k => if k = (pt_line 1 K V P th (pw_g h 125 7).toNat).2.2.1 then (pt_line 1 K V P th (pw_g h 125 7).toNat).2.2.2.1 else C k) (fun k => if k = (pt_line 1 K V P th (pw_g h 125 7).toNat).2.2.1 then (pt_line 1 K V P th (pw_g h 125 7).toNat).2.2.2.2 else N k)))) ∧ (v = .inl none)) := by
  have E : pm_ent 279 = some (1, 3, 12, 4, pmc_279) := rfl
  have E0 : pw_E [125, 146, 147, 161] h h := pw_E.rf _ _
  have hn1 : n ≤ 1000 := hp0.1
  have hA0 := hp0.2.2
  refine pw_ld E (pc' := 1) (st' := [pw_i ((-1))]) rfl (fun _ => rfl) ?_
  refine pw_istn E (pc' := 2) (ls' := [some (.ref 141), some (pw_i ((-1))), none]) rfl rfl rfl rfl ?_
  refine pw_ld E (pc' := 3) (st' := [pw_i 0]) rfl (fun _ => rfl) ?_
  refine pw_istn E (pc' := 4) (ls' := [some (.ref 141), some (pw_i ((-1))), some (pw_i 0)]) rfl rfl rfl rfl ?_
  have L4 : ∀ (n4 : Nat) (k4_1 : Int) (k4_2 : Int), (-1) ≤ k4_1 → k4_1 ≤ 3 → 0 ≤ k4_2 → k4_2 ≤ 4 → pt_fI (pw_g h 125 8) (K (pw_g h 125 7).toNat) (fun k => pt_wc (18 + k)) (V (pw_g h 125 7).toNat) (k4_2) (k4_1) → (4 - k4_2).toNat = n4 → pw X d h 279 4 [some (.ref 141), some (pw_i k4_1), some (pw_i k4_2)] [] (fun h' v => pw_I h' ∧ pw_E [125, 146, 147, 161] h h' ∧ (pt_TK K V P 1 h' ∧ ((pw_g h' 125 8 ≠ 0 ∧ (pt_line 1 K V P th (pw_g h 125 7).toNat).1 = pw_g h' 125 8) ∨ (pw_g h' 125 8 = 0 ∧ (pt_line 1 K V P th (pw_g h 125 7).toNat).1 = 0 ∧ pw_g h' 125 7 = (pt_line 1 K V P th (pw_g h 125 7).toNat).2.1 ∧ pt_MW h' (fun k => if k = (pt_line 1 K V P th (pw_g h 125 7).toNat).2.2.1 then 1 else th k) (fun k => if k = (pt_line 1 K V P th (pw_g h 125 7).toNat).2.2.1 then (pt_line 1 K V P th (pw_g h 125 7).toNat).2.2.2.1 else C k) (fun k => if k = (pt_line 1 K V P th (pw_g h 125 7).toNat).2.2.1 then (pt_line 1 K V P th (pw_g h 125 7).toNat).2.2.2.2 else N k)))) ∧ (v = .inl none)) := by
    intro n4
    induction n4 using Nat.strongRecOn with
    | ind n4 ih4 =>
      intro k4_1 k4_2 k4_1a k4_1b k4_2a k4_2b hx4_0 hm4
      refine pw_ld E (pc' := 5) (st' := [pw_i k4_2]) rfl (fun _ => rfl) ?_
      refine pw_ld E (pc' := 6) (st' := [pw_i 4, pw_i k4_2]) rfl (fun _ => rfl) ?_
      refine pw_if2 E (pc' := 32) rfl (by decide) (by omega) (by omega) (by decide) (by decide) ?_ ?_
      · intro hc1
        change (4 : Int) ≤ k4_2 at hc1
        have hw : pt_wo 1 K V (pw_g h 125 7).toNat = k4_1 := by
          rw [show k4_2 = 4 by omega] at hx4_0
          unfold pt_wo pt_LW
          rw [if_neg (show ¬ (1 : Int) = 0 by decide)]
          by_cases q : K (pw_g h 125 7).toNat = 1
          · rw [if_pos q]; exact (hx4_0.1 ⟨hp4, q⟩).symm
          · rw [if_neg q]; exact (hx4_0.2 (fun z => q z.2)).symm
        have hat0 : (((pw_g h 125 7).toNat : Nat) : Int) = pw_g h 125 7 := by omega
        refine pw_ld E (pc' := 33) (st' := [pw_i k4_1]) rfl (fun _ => rfl) ?_
        refine pw_if E (pc' := 44) rfl (by decide) (by omega) (by omega) ?_ ?_
        · intro hc2
          change (0 : Int) ≤ k4_1 at hc2
          have hml := hp6 k4_1 (by omega) (by omega)
          refine pw_ld E (pc' := 45) (st' := [.ref 141]) rfl (fun _ => rfl) ?_
          refine pw_getR (b := 177) I E (c := 125) (k := 50) (pc' := 48) rfl rfl rfl rfl rfl rfl rfl ?_
          refine pw_ld E (pc' := 49) (st' := [pw_i k4_1, .ref 177]) rfl (fun _ => rfl) ?_
          refine pw_ald2 I E (c := 161) (pc' := 50) rfl rfl rfl (by decide) rfl (by decide) (by omega) (by omega) rfl (fun hf3a hf3b => ?_)
          refine pw_if E (pc' := 58) rfl (by decide) (by omega) (by omega) ?_ ?_
          · intro hc4
            change pw_g h 161 (k4_1.toNat) < (0 : Int) at hc4
            have hth : th k4_1 = 0 := by rcases hml with ⟨-, q, -⟩ | ⟨q, -⟩ <;> first | exact q | omega
            refine pw_ld E (pc' := 59) (st' := [.ref 141]) rfl (fun _ => rfl) ?_
            refine pw_getI2 I E (c := 125) (k := 8) (pc' := 62) rfl rfl rfl rfl rfl rfl (fun hf5a hf5b => ?_)
            refine pw_if E (pc' := 66) rfl (by decide) (by omega) (by omega) ?_ ?_
            · intro hc6
              change pw_g h 125 8 ≤ (0 : Int) at hc6
              have hk1 : K (pw_g h 125 7).toNat = 1 := Classical.byContradiction (fun q => by have z : pt_wo 1 K V (pw_g h 125 7).toNat = -1 := if_neg q; omega)
              have hlt := pw_A.lt hp0 (by rw [hp2.1, hk1]; decide)
              refine pw_ld E (pc' := 67) (st' := [.ref 141]) rfl (fun _ => rfl) ?_
              refine pw_ld E (pc' := 68) (st' := [.ref 141, .ref 141]) rfl (fun _ => rfl) ?_
              refine pw_getI2 I E (c := 125) (k := 7) (pc' := 71) rfl rfl rfl rfl rfl rfl (fun hf7a hf7b => ?_)
              refine pw_ld E (pc' := 72) (st' := [pw_i 1, pw_i (pw_g h 125 7), .ref 141]) rfl (fun _ => rfl) ?_
              refine pw_add E (pc' := 73) rfl rfl ?_
              refine pw_putI I E (c := 125) (k := 7) (pc' := 76) rfl rfl rfl rfl (by omega) (by omega) (by omega) (by omega) rfl rfl ?_
              intro h8I h8E
              generalize h8w : pw_w h 125 7 (pw_i ((pw_g h 125 7) + 1)) = h8 at h8I h8E ⊢
              have h8F := E0.tr (h8E.wk (W' := [125, 146, 147, 161]) (by first | rfl | simp))
              have h87 : pw_g h8 125 7 = pw_g h 125 7 + 1 := by rw [← h8w]; exact pw_g_eq (c := 125) (k := 7) I rfl rfl (by omega) (by omega)
              have h88 : pw_g h8 125 8 = pw_g h 125 8 := by rw [← h8w]; exact pw_g_ne (by omega)
              have h832 : pw_g h8 125 32 = pw_g h 125 32 := by rw [← h8w]; exact pw_g_ne (by omega)
              have h845 : pw_g h8 125 45 = pw_g h 125 45 := by rw [← h8w]; exact pw_g_ne (by omega)
              have tAw : pw_A n h8 := ⟨hn1, by rw [pw_Eg (c := 127) I h8E rfl rfl]; exact hp0.2.1, by omega, by omega, by omega, by omega⟩
              have tTw : pt_TK K V P 1 h8 := pt_TK.E I h8E hp2 rfl (by omega)
              have hq1 : pw_g h8 125 7 = pw_g h 125 7 + 1 := by omega
              have hc1 : pw_g h8 125 32 = pw_g h 125 32 := by omega
              have hz1 : pw_g h8 125 8 = 0 := by omega
              refine pw_ld E (pc' := 77) (st' := [pw_i k4_1]) rfl (fun _ => rfl) ?_
              refine pw_if E (pc' := 109) rfl (by decide) (by omega) (by omega) ?_ ?_
              · intro hc9
                change k4_1 ≠ (0 : Int) at hc9
                have e1 : (pw_g h8 125 7).toNat = (pw_g h 125 7).toNat + 1 := by omega
                have hK1 : pw_g h8 127 (pw_g h8 125 7).toNat = K ((pw_g h 125 7).toNat + 1) := by rw [tTw.1, e1]
                have hPn := pw_gA (c := 128) (j := pw_g h8 125 7) h8I rfl (by decide) (by omega) (by omega)
                have hP1 : pw_g h8 128 (pw_g h8 125 7).toNat = P ((pw_g h 125 7).toNat + 1) := by rw [tTw.2.2.1, e1]
                refine pw_ld E (pc' := 110) (st' := [.ref 141]) rfl (fun _ => rfl) ?_
                refine pw_getR (b := 143) h8I E (c := 125) (k := 4) (pc' := 113) rfl rfl rfl rfl rfl rfl rfl ?_
                refine pw_ld E (pc' := 114) (st' := [.ref 141, .ref 143]) rfl (fun _ => rfl) ?_
                refine pw_getI2 h8I E (c := 125) (k := 7) (pc' := 117) rfl rfl rfl rfl rfl rfl (fun hf10a hf10b => ?_)
                refine pw_ald2 h8I E (c := 127) (pc' := 118) rfl rfl rfl (by decide) rfl (by decide) (by omega) (by omega) rfl (fun hf11a hf11b => ?_)
                refine pw_ld E (pc' := 119) (st' := [pw_i 2, pw_i (pw_g h8 127 ((pw_g h8 125 7).toNat))]) rfl (fun _ => rfl) ?_
                refine pw_if2 E (pc' := 130) rfl (by decide) (by omega) (by omega) (by decide) (by decide) ?_ ?_
                · intro hc12
                  change pw_g h8 127 ((pw_g h8 125 7).toNat) = (2 : Int) at hc12
                  have hV1 : pw_gm h8 129 ((pw_g h8 125 7).toNat) = V ((pw_g h 125 7).toNat + 1) := by rw [tTw.2.1, e1]
                  have hl2 : pw_g h8 125 7 < n := pw_A.lt tAw (by omega)
                  have hvr := hp3 ((pw_g h 125 7).toNat + 1) (by omega) (by omega)
                  refine pw_ld E (pc' := 131) (st' := [.ref 141]) rfl (fun _ => rfl) ?_
                  refine pw_getR (b := 145) h8I E (c := 125) (k := 6) (pc' := 134) rfl rfl rfl rfl rfl rfl rfl ?_
                  refine pw_ld E (pc' := 135) (st' := [.ref 141, .ref 145]) rfl (fun _ => rfl) ?_
                  refine pw_getI2 h8I E (c := 125) (k := 7) (pc' := 138) rfl rfl rfl rfl rfl rfl (fun hf13a hf13b => ?_)
                  refine pw_laldM h8I E (c := 129) (pc' := 139) rfl rfl rfl (by decide) (by omega) (by omega) rfl ?_
                  refine pw_ld E (pc' := 140) (st' := [pw_i k4_1, .long (Int64.ofInt (pw_gm h8 129 ((pw_g h8 125 7).toNat)))]) rfl (fun _ => rfl) ?_
                  refine pw_ld E (pc' := 141) (st' := [pw_i 3, pw_i k4_1, .long (Int64.ofInt (pw_gm h8 129 ((pw_g h8 125 7).toNat)))]) rfl (fun _ => rfl) ?_
                  refine pw_if2 E (pc' := 150) rfl (by decide) (by omega) (by omega) (by decide) (by decide) ?_ ?_
                  · intro hc14
                    change k4_1 ≠ (3 : Int) at hc14
                    refine pw_ld E (pc' := 153) (st' := [.long (Int64.ofInt 11), .long (Int64.ofInt (pw_gm h8 129 ((pw_g h8 125 7).toNat)))]) rfl (fun _ => rfl) ?_
                    refine pw_lcmpC E (pc' := 154) rfl rfl (by omega) (by omega) (by omega) (by omega) (fun c15 hc15 => ?_)
                    refine pw_if E (pc' := 165) rfl (by decide) (by omega) (by omega) ?_ ?_
                    · intro hc16
                      change c15 ≤ (0 : Int) at hc16
                      have hb161 : ∀ j : Nat, pw_g h8 161 j = pw_g h 161 j := fun j => by rw [← h8w, pw_g_ne (by omega)]
                      have hb146 : ∀ j : Nat, pw_g h8 146 j = pw_g h 146 j := fun j => by rw [← h8w, pw_g_ne (by omega)]
                      have hb147 : ∀ j : Nat, pw_g h8 147 j = pw_g h 147 j := fun j => by rw [← h8w, pw_g_ne (by omega)]
                      refine pw_ld E (pc' := 166) (st' := [.ref 141]) rfl (fun _ => rfl) ?_
                      refine pw_getR (b := 177) h8I E (c := 125) (k := 50) (pc' := 169) rfl rfl rfl rfl rfl rfl rfl ?_
                      refine pw_ld E (pc' := 170) (st' := [pw_i k4_1, .ref 177]) rfl (fun _ => rfl) ?_
                      refine pw_ld E (pc' := 171) (st' := [.ref 141, pw_i k4_1, .ref 177]) rfl (fun _ => rfl) ?_
                      refine pw_getR (b := 145) h8I E (c := 125) (k := 6) (pc' := 174) rfl rfl rfl rfl rfl rfl rfl ?_
                      refine pw_ld E (pc' := 175) (st' := [.ref 141, .ref 145, pw_i k4_1, .ref 177]) rfl (fun _ => rfl) ?_
                      refine pw_getI2 h8I E (c := 125) (k := 7) (pc' := 178) rfl rfl rfl rfl rfl rfl (fun hf17a hf17b => ?_)
                      refine pw_laldM h8I E (c := 129) (pc' := 179) rfl rfl rfl (by decide) (by omega) (by omega) rfl ?_
                      refine pw_l2iC E (pc' := 180) rfl rfl ?_
                      refine pw_ast0 h8I E (c := 161) (pc' := 181) rfl rfl rfl (by decide) rfl (by decide) (by omega) (by omega) rfl (by omega) (by omega) (by omega) (by omega) rfl ?_
                      intro h18I h18E
                      generalize h18w : pw_w h8 161 (k4_1.toNat) (pw_i (pw_gm h8 129 ((pw_g h8 125 7).toNat))) = h18 at h18I h18E ⊢
                      have h18F := h8F.tr (h18E.wk (W' := [125, 146, 147, 161]) (by first | rfl | simp))
                      have h187 : pw_g h18 125 7 = pw_g h8 125 7 := by rw [← h18w]; exact pw_g_ne (by omega)
                      have h188 : pw_g h18 125 8 = pw_g h8 125 8 := by rw [← h18w]; exact pw_g_ne (by omega)
                      have h1832 : pw_g h18 125 32 = pw_g h8 125 32 := by rw [← h18w]; exact pw_g_ne (by omega)
                      have h1845 : pw_g h18 125 45 = pw_g h8 125 45 := by rw [← h18w]; exact pw_g_ne (by omega)
                      have tAl : pw_A n h18 := ⟨hn1, by rw [pw_Eg (c := 127) h8I h18E rfl rfl]; exact tAw.2.1, by omega, by omega, by omega, by omega⟩
                      have tTl : pt_TK K V P 1 h18 := pt_TK.E h8I h18E tTw rfl (by omega)
                      have l1 : pw_g h18 161 k4_1.toNat = pw_gm h8 129 ((pw_g h8 125 7).toNat) := by rw [← h18w, show k4_1.toNat = k4_1.toNat by omega]; exact pw_g_eqA h8I rfl (by omega) (by omega) (by omega)
                      have l2 : ∀ j : Nat, j ≠ k4_1.toNat → pw_g h18 161 j = pw_g h8 161 j := fun j hj => by rw [← h18w]; exact pw_g_ne (by omega)
                      have l3 : ∀ j : Nat, pw_g h18 146 j = pw_g h8 146 j ∧ pw_g h18 147 j = pw_g h8 147 j := fun j => ⟨by rw [← h18w]; exact pw_g_ne (by omega), by rw [← h18w]; exact pw_g_ne (by omega)⟩
                      refine pw_ld E (pc' := 182) (st' := [.ref 141]) rfl (fun _ => rfl) ?_
                      refine pw_ld E (pc' := 183) (st' := [.ref 141, .ref 141]) rfl (fun _ => rfl) ?_
                      refine pw_getI2 h18I E (c := 125) (k := 7) (pc' := 186) rfl rfl rfl rfl rfl rfl (fun hf19a hf19b => ?_)
                      refine pw_ld E (pc' := 187) (st' := [pw_i 1, pw_i (pw_g h18 125 7), .ref 141]) rfl (fun _ => rfl) ?_
                      refine pw_add E (pc' := 188) rfl rfl ?_
                      refine pw_putI h18I E (c := 125) (k := 7) (pc' := 191) rfl rfl rfl rfl (by omega) (by omega) (by omega) (by omega) rfl rfl ?_
                      intro h20I h20E
                      generalize h20w : pw_w h18 125 7 (pw_i ((pw_g h18 125 7) + 1)) = h20 at h20I h20E ⊢
                      have h20F := h18F.tr (h20E.wk (W' := [125, 146, 147, 161]) (by first | rfl | simp))
                      have h207 : pw_g h20 125 7 = pw_g h18 125 7 + 1 := by rw [← h20w]; exact pw_g_eq (c := 125) (k := 7) h18I rfl rfl (by omega) (by omega)
                      have h208 : pw_g h20 125 8 = pw_g h18 125 8 := by rw [← h20w]; exact pw_g_ne (by omega)
                      have h2032 : pw_g h20 125 32 = pw_g h18 125 32 := by rw [← h20w]; exact pw_g_ne (by omega)
                      have h2045 : pw_g h20 125 45 = pw_g h18 125 45 := by rw [← h20w]; exact pw_g_ne (by omega)
                      have tAw : pw_A n h20 := ⟨hn1, by rw [pw_Eg (c := 127) h18I h20E rfl rfl]; exact tAl.2.1, by omega, by omega, by omega, by omega⟩
                      have tTw : pt_TK K V P 1 h20 := pt_TK.E h18I h20E tTl rfl (by omega)
                      refine pw_ld E (pc' := 192) (st' := [.ref 141]) rfl (fun _ => rfl) ?_
                      refine pw_bip E (pc' := 194) rfl rfl (by decide) ?_
                      obtain ⟨f21l, f21h, -⟩ := pw_obj (c := 125) h20I rfl
                      refine pw_call (m' := 257) (As := [.ref 141, pw_i 59]) (rest := []) (ls'' := [some (.ref 141), some (pw_i 59)]) (Nat.le_trans (by decide) hd) E rfl (fun _ => pw_iV rfl rfl rfl rfl (pw_cellI f21h rfl)) (rfl : pm_ent 257 = some (2, 2, 12, 4, pmc_257)) rfl rfl (cm_257_t (pw_dp hd (by decide)) h20I (59) (by omega) (by omega) (by omega)) ?_
                      rintro h22 v23 ⟨h22I, h22E, hqtk, rfl⟩
                      refine ⟨_, rfl, ?_⟩
                      have h22F := h20F.tr (h22E.wk (W' := [125, 146, 147, 161]) (by first | rfl | simp))
                      show pw X d h22 279 197 [some (.ref 141), some (pw_i k4_1), some (pw_i k4_2)] [] _
                      have w9 := pt_sgI tTw (ch := 59) (by decide) (by decide)
                      have hw6 : pw_sg h20 59 = 1 → pw_g h20 125 7 < n := fun q => pw_A.lt tAw (by rw [tTw.1, (w9.resolve_right (fun z => by have := z.1; omega)).2.2.1]; decide)
                      have hPz := pw_gA (c := 128) (j := pw_g h20 125 7) h20I rfl (by decide) (by omega) (by omega)
                      have tAz : pw_A n h22 := ⟨hn1, by rw [pw_Eg (c := 127) h20I h22E rfl rfl]; exact tAw.2.1, by omega, by omega, by omega, by omega⟩
                      have tTz : pt_TK K V P 1 h22 := pt_TK.E h20I h22E tTw rfl (by omega)
                      refine pw_vret E rfl ?_
                      have hFO := pt_FOw k4_1
                      have e2 : (pw_g h20 125 7).toNat = (pw_g h 125 7).toNat + 2 := by omega
                      rw [e2] at w9
                      have hqw := hqtk.2.1
                      rw [tTw.2.2.1, e2] at hqw
                      rw [tTw.2.2.1, e2] at hPz
                      rcases w9 with ⟨y1, -, yk, yv⟩ | ⟨y0, yn⟩
                      · have hLN := pt_line_nn (P := P) hw (by omega) hth (by omega) (show K ((pw_g h 125 7).toNat + 1) = 2 by omega) (by omega) ⟨yk, yv⟩
                        obtain ⟨u7, u8⟩ := hqtk.1 y1
                        have c161 : ∀ j : Nat, pw_g h22 161 j = pw_g h18 161 j := fun j => by rw [pw_Eg (c := 161) h20I h22E rfl rfl j, ← h20w, pw_g_ne (by omega)]
                        have c146 : ∀ j : Nat, pw_g h22 146 j = pw_g h18 146 j := fun j => by rw [pw_Eg (c := 146) h20I h22E rfl rfl j, ← h20w, pw_g_ne (by omega)]
                        have c147 : ∀ j : Nat, pw_g h22 147 j = pw_g h18 147 j := fun j => by rw [pw_Eg (c := 147) h20I h22E rfl rfl j, ← h20w, pw_g_ne (by omega)]
                        have hMW := hp6.add (w := k4_1) (v := V ((pw_g h 125 7).toNat + 1)) (x := V ((pw_g h 125 7).toNat + 1)) (c := []) (by omega) (by omega) (fun k hk => (c161 k).trans ((l2 k hk).trans (hb161 k))) ((c161 _).trans (by omega)) (by omega) (fun j _ => ⟨(c146 j).trans ((l3 j).1.trans (hb146 j)), (c147 j).trans ((l3 j).2.trans (hb147 j))⟩) (fun q => by exfalso; omega) (fun _ => rfl) (by omega)
                        exact ⟨h22I, h22F, ⟨tTz, Or.inr ⟨by omega, by rw [hLN], by rw [hLN]; show pw_g h22 125 7 = (((pw_g h 125 7).toNat : Nat) : Int) + 3; omega, by rw [hLN]; exact hMW⟩⟩, rfl⟩
                      · have n9 : pw_sg h20 59 ≠ 1 := by omega
                        have z8 := (hqw n9).2.1 (by omega)
                        exact ⟨h22I, h22F, ⟨tTz, Or.inl ⟨by omega, (pt_line_ns hw (by omega) hth (by omega) (show K ((pw_g h 125 7).toNat + 1) = 2 by omega) (by omega) (fun q => yn ⟨by omega, q.1, q.2⟩)).trans (by omega)⟩⟩, rfl⟩
                    · intro hc24
                      change ¬ (c15 ≤ (0 : Int)) at hc24
                      refine pw_ld E (pc' := 158) (st' := [.ref 141]) rfl (fun _ => rfl) ?_
                      refine pw_ld E (pc' := 159) (st' := [pw_i 4, .ref 141]) rfl (fun _ => rfl) ?_
                      obtain ⟨f25l, f25h, -⟩ := pw_obj (c := 125) h8I rfl
                      refine pw_call (m' := 245) (As := [.ref 141, pw_i 4]) (rest := []) (ls'' := [some (.ref 141), some (pw_i 4)]) (Nat.le_trans (by decide) hd) E rfl (fun _ => pw_iV rfl rfl rfl rfl (pw_cellI f25h rfl)) (rfl : pm_ent 245 = some (2, 2, 12, 4, pmc_245)) rfl rfl (cm_245_t (pw_dp hd (by decide)) h8I (4) (by omega) (by omega)) ?_
                      rintro h26 v27 ⟨h26I, h26E, hqwr, rfl⟩
                      refine ⟨_, rfl, ?_⟩
                      have h26F := h8F.tr (h26E.wk (W' := [125, 146, 147, 161]) (by first | rfl | simp))
                      show pw X d h26 279 162 [some (.ref 141), some (pw_i k4_1), some (pw_i k4_2)] [] _
                      have hwn := hqwr.1 (by omega)
                      have tAy : pw_A n h26 := ⟨hn1, by rw [pw_Eg (c := 127) h8I h26E rfl rfl]; exact tAw.2.1, by omega, by omega, by omega, by omega⟩
                      have tTy : pt_TK K V P 1 h26 := pt_TK.E h8I h26E tTw rfl (by omega)
                      refine pw_goto E (pc' := 191) rfl (by decide) ?_
                      refine pw_ld E (pc' := 192) (st' := [.ref 141]) rfl (fun _ => rfl) ?_
                      refine pw_bip E (pc' := 194) rfl rfl (by decide) ?_
                      obtain ⟨f28l, f28h, -⟩ := pw_obj (c := 125) h26I rfl
                      refine pw_call (m' := 257) (As := [.ref 141, pw_i 59]) (rest := []) (ls'' := [some (.ref 141), some (pw_i 59)]) (Nat.le_trans (by decide) hd) E rfl (fun _ => pw_iV rfl rfl rfl rfl (pw_cellI f28h rfl)) (rfl : pm_ent 257 = some (2, 2, 12, 4, pmc_257)) rfl rfl (cm_257_t (pw_dp hd (by decide)) h26I (59) (by omega) (by omega) (by omega)) ?_
                      rintro h29 v30 ⟨h29I, h29E, hqtk, rfl⟩
                      refine ⟨_, rfl, ?_⟩
                      have h29F := h26F.tr (h29E.wk (W' := [125, 146, 147, 161]) (by first | rfl | simp))
                      show pw X d h29 279 197 [some (.ref 141), some (pw_i k4_1), some (pw_i k4_2)] [] _
                      have w9 := pt_sgI tTy (ch := 59) (by decide) (by decide)
                      have hw6 : pw_sg h26 59 = 1 → pw_g h26 125 7 < n := fun q => pw_A.lt tAy (by rw [tTy.1, (w9.resolve_right (fun z => by have := z.1; omega)).2.2.1]; decide)
                      have hPz := pw_gA (c := 128) (j := pw_g h26 125 7) h26I rfl (by decide) (by omega) (by omega)
                      have tAz : pw_A n h29 := ⟨hn1, by rw [pw_Eg (c := 127) h26I h29E rfl rfl]; exact tAy.2.1, by omega, by omega, by omega, by omega⟩
                      have tTz : pt_TK K V P 1 h29 := pt_TK.E h26I h29E tTy rfl (by omega)
                      refine pw_vret E rfl ?_
                      have hFO := pt_FOw k4_1
                      have n9 : pw_sg h26 59 ≠ 1 := fun q => by have := (w9.resolve_right (fun z => by have := z.1; omega)).2.1; omega
                      have z8 := (hqtk.2.1 n9).2.2 (by omega)
                      exact ⟨h29I, h29F, ⟨tTz, Or.inl ⟨by omega, (pt_line_n4 hw (by omega) hth (by omega) (by omega) (by omega)).trans (by omega)⟩⟩, rfl⟩
                  · intro hc31
                    change ¬ (k4_1 ≠ (3 : Int)) at hc31
                    refine pw_ld E (pc' := 147) (st' := [.long (Int64.ofInt 10), .long (Int64.ofInt (pw_gm h8 129 ((pw_g h8 125 7).toNat)))]) rfl (fun _ => rfl) ?_
                    refine pw_goto E (pc' := 153) rfl (by decide) ?_
                    refine pw_lcmpC E (pc' := 154) rfl rfl (by omega) (by omega) (by omega) (by omega) (fun c32 hc32 => ?_)
                    refine pw_if E (pc' := 165) rfl (by decide) (by omega) (by omega) ?_ ?_
                    · intro hc33
                      change c32 ≤ (0 : Int) at hc33
                      have hb161 : ∀ j : Nat, pw_g h8 161 j = pw_g h 161 j := fun j => by rw [← h8w, pw_g_ne (by omega)]
                      have hb146 : ∀ j : Nat, pw_g h8 146 j = pw_g h 146 j := fun j => by rw [← h8w, pw_g_ne (by omega)]
                      have hb147 : ∀ j : Nat, pw_g h8 147 j = pw_g h 147 j := fun j => by rw [← h8w, pw_g_ne (by omega)]
                      refine pw_ld E (pc' := 166) (st' := [.ref 141]) rfl (fun _ => rfl) ?_
                      refine pw_getR (b := 177) h8I E (c := 125) (k := 50) (pc' := 169) rfl rfl rfl rfl rfl rfl rfl ?_
                      refine pw_ld E (pc' := 170) (st' := [pw_i k4_1, .ref 177]) rfl (fun _ => rfl) ?_
                      refine pw_ld E (pc' := 171) (st' := [.ref 141, pw_i k4_1, .ref 177]) rfl (fun _ => rfl) ?_
                      refine pw_getR (b := 145) h8I E (c := 125) (k := 6) (pc' := 174) rfl rfl rfl rfl rfl rfl rfl ?_
                      refine pw_ld E (pc' := 175) (st' := [.ref 141, .ref 145, pw_i k4_1, .ref 177]) rfl (fun _ => rfl) ?_
                      refine pw_getI2 h8I E (c := 125) (k := 7) (pc' := 178) rfl rfl rfl rfl rfl rfl (fun hf34a hf34b => ?_)
                      refine pw_laldM h8I E (c := 129) (pc' := 179) rfl rfl rfl (by decide) (by omega) (by omega) rfl ?_
                      refine pw_l2iC E (pc' := 180) rfl rfl ?_
                      refine pw_ast0 h8I E (c := 161) (pc' := 181) rfl rfl rfl (by decide) rfl (by decide) (by omega) (by omega) rfl (by omega) (by omega) (by omega) (by omega) rfl ?_
                      intro h35I h35E
                      generalize h35w : pw_w h8 161 (k4_1.toNat) (pw_i (pw_gm h8 129 ((pw_g h8 125 7).toNat))) = h35 at h35I h35E ⊢
                      have h35F := h8F.tr (h35E.wk (W' := [125, 146, 147, 161]) (by first | rfl | simp))
                      have h357 : pw_g h35 125 7 = pw_g h8 125 7 := by rw [← h35w]; exact pw_g_ne (by omega)
                      have h358 : pw_g h35 125 8 = pw_g h8 125 8 := by rw [← h35w]; exact pw_g_ne (by omega)
                      have h3532 : pw_g h35 125 32 = pw_g h8 125 32 := by rw [← h35w]; exact pw_g_ne (by omega)
                      have h3545 : pw_g h35 125 45 = pw_g h8 125 45 := by rw [← h35w]; exact pw_g_ne (by omega)
                      have tAl : pw_A n h35 := ⟨hn1, by rw [pw_Eg (c := 127) h8I h35E rfl rfl]; exact tAw.2.1, by omega, by omega, by omega, by omega⟩
                      have tTl : pt_TK K V P 1 h35 := pt_TK.E h8I h35E tTw rfl (by omega)
                      have l1 : pw_g h35 161 k4_1.toNat = pw_gm h8 129 ((pw_g h8 125 7).toNat) := by rw [← h35w, show k4_1.toNat = k4_1.toNat by omega]; exact pw_g_eqA h8I rfl (by omega) (by omega) (by omega)
                      have l2 : ∀ j : Nat, j ≠ k4_1.toNat → pw_g h35 161 j = pw_g h8 161 j := fun j hj => by rw [← h35w]; exact pw_g_ne (by omega)
                      have l3 : ∀ j : Nat, pw_g h35 146 j = pw_g h8 146 j ∧ pw_g h35 147 j = pw_g h8 147 j := fun j => ⟨by rw [← h35w]; exact pw_g_ne (by omega), by rw [← h35w]; exact pw_g_ne (by omega)⟩
                      refine pw_ld E (pc' := 182) (st' := [.ref 141]) rfl (fun _ => rfl) ?_
                      refine pw_ld E (pc' := 183) (st' := [.ref 141, .ref 141]) rfl (fun _ => rfl) ?_
                      refine pw_getI2 h35I E (c := 125) (k := 7) (pc' := 186) rfl rfl rfl rfl rfl rfl (fun hf36a hf36b => ?_)
                      refine pw_ld E (pc' := 187) (st' := [pw_i 1, pw_i (pw_g h35 125 7), .ref 141]) rfl (fun _ => rfl) ?_
                      refine pw_add E (pc' := 188) rfl rfl ?_
                      refine pw_putI h35I E (c := 125) (k := 7) (pc' := 191) rfl rfl rfl rfl (by omega) (by omega) (by omega) (by omega) rfl rfl ?_
                      intro h37I h37E
                      generalize h37w : pw_w h35 125 7 (pw_i ((pw_g h35 125 7) + 1)) = h37 at h37I h37E ⊢
                      have h37F := h35F.tr (h37E.wk (W' := [125, 146, 147, 161]) (by first | rfl | simp))
                      have h377 : pw_g h37 125 7 = pw_g h35 125 7 + 1 := by rw [← h37w]; exact pw_g_eq (c := 125) (k := 7) h35I rfl rfl (by omega) (by omega)
                      have h378 : pw_g h37 125 8 = pw_g h35 125 8 := by rw [← h37w]; exact pw_g_ne (by omega)
                      have h3732 : pw_g h37 125 32 = pw_g h35 125 32 := by rw [← h37w]; exact pw_g_ne (by omega)
                      have h3745 : pw_g h37 125 45 = pw_g h35 125 45 := by rw [← h37w]; exact pw_g_ne (by omega)
                      have tAw : pw_A n h37 := ⟨hn1, by rw [pw_Eg (c := 127) h35I h37E rfl rfl]; exact tAl.2.1, by omega, by omega, by omega, by omega⟩
                      have tTw : pt_TK K V P 1 h37 := pt_TK.E h35I h37E tTl rfl (by omega)
                      refine pw_ld E (pc' := 192) (st' := [.ref 141]) rfl (fun _ => rfl) ?_
                      refine pw_bip E (pc' := 194) rfl rfl (by decide) ?_
                      obtain ⟨f38l, f38h, -⟩ := pw_obj (c := 125) h37I rfl
                      refine pw_call (m' := 257) (As := [.ref 141, pw_i 59]) (rest := []) (ls'' := [some (.ref 141), some (pw_i 59)]) (Nat.le_trans (by decide) hd) E rfl (fun _ => pw_iV rfl rfl rfl rfl (pw_cellI f38h rfl)) (rfl : pm_ent 257 = some (2, 2, 12, 4, pmc_257)) rfl rfl (cm_257_t (pw_dp hd (by decide)) h37I (59) (by omega) (by omega) (by omega)) ?_
                      rintro h39 v40 ⟨h39I, h39E, hqtk, rfl⟩
                      refine ⟨_, rfl, ?_⟩
                      have h39F := h37F.tr (h39E.wk (W' := [125, 146, 147, 161]) (by first | rfl | simp))
                      show pw X d h39 279 197 [some (.ref 141), some (pw_i k4_1), some (pw_i k4_2)] [] _
                      have w9 := pt_sgI tTw (ch := 59) (by decide) (by decide)
                      have hw6 : pw_sg h37 59 = 1 → pw_g h37 125 7 < n := fun q => pw_A.lt tAw (by rw [tTw.1, (w9.resolve_right (fun z => by have := z.1; omega)).2.2.1]; decide)
                      have hPz := pw_gA (c := 128) (j := pw_g h37 125 7) h37I rfl (by decide) (by omega) (by omega)
                      have tAz : pw_A n h39 := ⟨hn1, by rw [pw_Eg (c := 127) h37I h39E rfl rfl]; exact tAw.2.1, by omega, by omega, by omega, by omega⟩
                      have tTz : pt_TK K V P 1 h39 := pt_TK.E h37I h39E tTw rfl (by omega)
                      refine pw_vret E rfl ?_
                      have hFO := pt_FOw k4_1
                      have e2 : (pw_g h37 125 7).toNat = (pw_g h 125 7).toNat + 2 := by omega
                      rw [e2] at w9
                      have hqw := hqtk.2.1
                      rw [tTw.2.2.1, e2] at hqw
                      rw [tTw.2.2.1, e2] at hPz
                      rcases w9 with ⟨y1, -, yk, yv⟩ | ⟨y0, yn⟩
                      · have hLN := pt_line_nn (P := P) hw (by omega) hth (by omega) (show K ((pw_g h 125 7).toNat + 1) = 2 by omega) (by omega) ⟨yk, yv⟩
                        obtain ⟨u7, u8⟩ := hqtk.1 y1
                        have c161 : ∀ j : Nat, pw_g h39 161 j = pw_g h35 161 j := fun j => by rw [pw_Eg (c := 161) h37I h39E rfl rfl j, ← h37w, pw_g_ne (by omega)]
                        have c146 : ∀ j : Nat, pw_g h39 146 j = pw_g h35 146 j := fun j => by rw [pw_Eg (c := 146) h37I h39E rfl rfl j, ← h37w, pw_g_ne (by omega)]
                        have c147 : ∀ j : Nat, pw_g h39 147 j = pw_g h35 147 j := fun j => by rw [pw_Eg (c := 147) h37I h39E rfl rfl j, ← h37w, pw_g_ne (by omega)]
                        have hMW := hp6.add (w := k4_1) (v := V ((pw_g h 125 7).toNat + 1)) (x := V ((pw_g h 125 7).toNat + 1)) (c := []) (by omega) (by omega) (fun k hk => (c161 k).trans ((l2 k hk).trans (hb161 k))) ((c161 _).trans (by omega)) (by omega) (fun j _ => ⟨(c146 j).trans ((l3 j).1.trans (hb146 j)), (c147 j).trans ((l3 j).2.trans (hb147 j))⟩) (fun q => by exfalso; omega) (fun _ => rfl) (by omega)
                        exact ⟨h39I, h39F, ⟨tTz, Or.inr ⟨by omega, by rw [hLN], by rw [hLN]; show pw_g h39 125 7 = (((pw_g h 125 7).toNat : Nat) : Int) + 3; omega, by rw [hLN]; exact hMW⟩⟩, rfl⟩
                      · have n9 : pw_sg h37 59 ≠ 1 := by omega
                        have z8 := (hqw n9).2.1 (by omega)
                        exact ⟨h39I, h39F, ⟨tTz, Or.inl ⟨by omega, (pt_line_ns hw (by omega) hth (by omega) (show K ((pw_g h 125 7).toNat + 1) = 2 by omega) (by omega) (fun q => yn ⟨by omega, q.1, q.2⟩)).trans (by omega)⟩⟩, rfl⟩
                    · intro hc41
                      change ¬ (c32 ≤ (0 : Int)) at hc41
                      refine pw_ld E (pc' := 158) (st' := [.ref 141]) rfl (fun _ => rfl) ?_
                      refine pw_ld E (pc' := 159) (st' := [pw_i 4, .ref 141]) rfl (fun _ => rfl) ?_
                      obtain ⟨f42l, f42h, -⟩ := pw_obj (c := 125) h8I rfl
                      refine pw_call (m' := 245) (As := [.ref 141, pw_i 4]) (rest := []) (ls'' := [some (.ref 141), some (pw_i 4)]) (Nat.le_trans (by decide) hd) E rfl (fun _ => pw_iV rfl rfl rfl rfl (pw_cellI f42h rfl)) (rfl : pm_ent 245 = some (2, 2, 12, 4, pmc_245)) rfl rfl (cm_245_t (pw_dp hd (by decide)) h8I (4) (by omega) (by omega)) ?_
                      rintro h43 v44 ⟨h43I, h43E, hqwr, rfl⟩
                      refine ⟨_, rfl, ?_⟩
                      have h43F := h8F.tr (h43E.wk (W' := [125, 146, 147, 161]) (by first | rfl | simp))
                      show pw X d h43 279 162 [some (.ref 141), some (pw_i k4_1), some (pw_i k4_2)] [] _
                      have hwn := hqwr.1 (by omega)
                      have tAy : pw_A n h43 := ⟨hn1, by rw [pw_Eg (c := 127) h8I h43E rfl rfl]; exact tAw.2.1, by omega, by omega, by omega, by omega⟩
                      have tTy : pt_TK K V P 1 h43 := pt_TK.E h8I h43E tTw rfl (by omega)
                      refine pw_goto E (pc' := 191) rfl (by decide) ?_
                      refine pw_ld E (pc' := 192) (st' := [.ref 141]) rfl (fun _ => rfl) ?_
                      refine pw_bip E (pc' := 194) rfl rfl (by decide) ?_
                      obtain ⟨f45l, f45h, -⟩ := pw_obj (c := 125) h43I rfl
                      refine pw_call (m' := 257) (As := [.ref 141, pw_i 59]) (rest := []) (ls'' := [some (.ref 141), some (pw_i 59)]) (Nat.le_trans (by decide) hd) E rfl (fun _ => pw_iV rfl rfl rfl rfl (pw_cellI f45h rfl)) (rfl : pm_ent 257 = some (2, 2, 12, 4, pmc_257)) rfl rfl (cm_257_t (pw_dp hd (by decide)) h43I (59) (by omega) (by omega) (by omega)) ?_
                      rintro h46 v47 ⟨h46I, h46E, hqtk, rfl⟩
                      refine ⟨_, rfl, ?_⟩
                      have h46F := h43F.tr (h46E.wk (W' := [125, 146, 147, 161]) (by first | rfl | simp))
                      show pw X d h46 279 197 [some (.ref 141), some (pw_i k4_1), some (pw_i k4_2)] [] _
                      have w9 := pt_sgI tTy (ch := 59) (by decide) (by decide)
                      have hw6 : pw_sg h43 59 = 1 → pw_g h43 125 7 < n := fun q => pw_A.lt tAy (by rw [tTy.1, (w9.resolve_right (fun z => by have := z.1; omega)).2.2.1]; decide)
                      have hPz := pw_gA (c := 128) (j := pw_g h43 125 7) h43I rfl (by decide) (by omega) (by omega)
                      have tAz : pw_A n h46 := ⟨hn1, by rw [pw_Eg (c := 127) h43I h46E rfl rfl]; exact tAy.2.1, by omega, by omega, by omega, by omega⟩
                      have tTz : pt_TK K V P 1 h46 := pt_TK.E h43I h46E tTy rfl (by omega)
                      refine pw_vret E rfl ?_
                      have hFO := pt_FOw k4_1
                      have n9 : pw_sg h43 59 ≠ 1 := fun q => by have := (w9.resolve_right (fun z => by have := z.1; omega)).2.1; omega
                      have z8 := (hqtk.2.1 n9).2.2 (by omega)
                      exact ⟨h46I, h46F, ⟨tTz, Or.inl ⟨by omega, (pt_line_n4 hw (by omega) hth (by omega) (by omega) (by omega)).trans (by omega)⟩⟩, rfl⟩
                · intro hc48
                  change ¬ (pw_g h8 127 ((pw_g h8 125 7).toNat) = (2 : Int)) at hc48
                  refine pw_ld E (pc' := 123) (st' := [.ref 141]) rfl (fun _ => rfl) ?_
                  refine pw_ld E (pc' := 124) (st' := [pw_i 1, .ref 141]) rfl (fun _ => rfl) ?_
                  obtain ⟨f49l, f49h, -⟩ := pw_obj (c := 125) h8I rfl
                  refine pw_call (m' := 245) (As := [.ref 141, pw_i 1]) (rest := []) (ls'' := [some (.ref 141), some (pw_i 1)]) (Nat.le_trans (by decide) hd) E rfl (fun _ => pw_iV rfl rfl rfl rfl (pw_cellI f49h rfl)) (rfl : pm_ent 245 = some (2, 2, 12, 4, pmc_245)) rfl rfl (cm_245_t (pw_dp hd (by decide)) h8I (1) (by omega) (by omega)) ?_
                  rintro h50 v51 ⟨h50I, h50E, hqwr, rfl⟩
                  refine ⟨_, rfl, ?_⟩
                  have h50F := h8F.tr (h50E.wk (W' := [125, 146, 147, 161]) (by first | rfl | simp))
                  show pw X d h50 279 127 [some (.ref 141), some (pw_i k4_1), some (pw_i k4_2)] [] _
                  have hwn := hqwr.1 (by omega)
                  have tAy : pw_A n h50 := ⟨hn1, by rw [pw_Eg (c := 127) h8I h50E rfl rfl]; exact tAw.2.1, by omega, by omega, by omega, by omega⟩
                  have tTy : pt_TK K V P 1 h50 := pt_TK.E h8I h50E tTw rfl (by omega)
                  refine pw_goto E (pc' := 191) rfl (by decide) ?_
                  refine pw_ld E (pc' := 192) (st' := [.ref 141]) rfl (fun _ => rfl) ?_
                  refine pw_bip E (pc' := 194) rfl rfl (by decide) ?_
                  obtain ⟨f52l, f52h, -⟩ := pw_obj (c := 125) h50I rfl
                  refine pw_call (m' := 257) (As := [.ref 141, pw_i 59]) (rest := []) (ls'' := [some (.ref 141), some (pw_i 59)]) (Nat.le_trans (by decide) hd) E rfl (fun _ => pw_iV rfl rfl rfl rfl (pw_cellI f52h rfl)) (rfl : pm_ent 257 = some (2, 2, 12, 4, pmc_257)) rfl rfl (cm_257_t (pw_dp hd (by decide)) h50I (59) (by omega) (by omega) (by omega)) ?_
                  rintro h53 v54 ⟨h53I, h53E, hqtk, rfl⟩
                  refine ⟨_, rfl, ?_⟩
                  have h53F := h50F.tr (h53E.wk (W' := [125, 146, 147, 161]) (by first | rfl | simp))
                  show pw X d h53 279 197 [some (.ref 141), some (pw_i k4_1), some (pw_i k4_2)] [] _
                  have w9 := pt_sgI tTy (ch := 59) (by decide) (by decide)
                  have hw6 : pw_sg h50 59 = 1 → pw_g h50 125 7 < n := fun q => pw_A.lt tAy (by rw [tTy.1, (w9.resolve_right (fun z => by have := z.1; omega)).2.2.1]; decide)
                  have hPz := pw_gA (c := 128) (j := pw_g h50 125 7) h50I rfl (by decide) (by omega) (by omega)
                  have tAz : pw_A n h53 := ⟨hn1, by rw [pw_Eg (c := 127) h50I h53E rfl rfl]; exact tAy.2.1, by omega, by omega, by omega, by omega⟩
                  have tTz : pt_TK K V P 1 h53 := pt_TK.E h50I h53E tTy rfl (by omega)
                  refine pw_vret E rfl ?_
                  have hFO := pt_FOw k4_1
                  have n9 : pw_sg h50 59 ≠ 1 := fun q => by have := (w9.resolve_right (fun z => by have := z.1; omega)).2.1; omega
                  have z8 := (hqtk.2.1 n9).2.2 (by omega)
                  exact ⟨h53I, h53F, ⟨tTz, Or.inl ⟨by omega, (pt_line_n1 hw (by omega) hth (by omega) (by omega)).trans (by omega)⟩⟩, rfl⟩
              · intro hc55
                change ¬ (k4_1 ≠ (0 : Int)) at hc55
                refine pw_ld E (pc' := 81) (st' := [.ref 141]) rfl (fun _ => rfl) ?_
                refine pw_ld E (pc' := 82) (st' := [pw_i 4, .ref 141]) rfl (fun _ => rfl) ?_
                obtain ⟨f56l, f56h, -⟩ := pw_obj (c := 125) h8I rfl
                refine pw_call (m' := 246) (As := [.ref 141, pw_i 4]) (rest := []) (ls'' := [some (.ref 141), some (pw_i 4)]) (Nat.le_trans (by decide) hd) E rfl (fun _ => pw_iV rfl rfl rfl rfl (pw_cellI f56h rfl)) (rfl : pm_ent 246 = some (2, 2, 12, 4, pmc_246)) rfl rfl (cm_246_t (pw_dp hd (by decide)) h8I (4) (by omega) (by omega) (by omega)) ?_
                rintro h57 v58 ⟨h57I, h57E, hqtk, rfl⟩
                refine ⟨_, rfl, ?_⟩
                have h57F := h8F.tr (h57E.wk (W' := [125, 146, 147, 161]) (by first | rfl | simp))
                show pw X d h57 279 85 [some (.ref 141), some (pw_i k4_1), some (pw_i k4_2)] [] _
                have w4 := pt_wdI tTw (w := 4) (by decide) (by decide)
                have hw5 : pw_wd h8 4 = 1 → pw_g h8 125 7 < n := fun q => pw_A.lt tAw (by rw [tTw.1, (w4.resolve_right (fun z => by have := z.1; omega)).2.2.1]; decide)
                have hpl0 := pw_gA (c := 128) (j := pw_g h8 125 7) h8I rfl (by decide) (by omega) (by omega)
                have tAt : pw_A n h57 := ⟨hn1, by rw [pw_Eg (c := 127) h8I h57E rfl rfl]; exact tAw.2.1, by omega, by omega, by omega, by omega⟩
                have tTt : pt_TK K V P 1 h57 := pt_TK.E h8I h57E tTw rfl (by omega)
                rcases (by omega : pw_wd h8 4 = 1 ∨ pw_wd h8 4 ≠ 1) with hw4 | hw4
                · have hw4 : pw_wd h8 4 = 1 := hw4
                  obtain ⟨t7, t8⟩ := hqtk.1 hw4
                  have hwh := (w4.resolve_right (fun z => by have := z.1; omega)).2.2
                  have hwh : K ((pw_g h 125 7).toNat + 1) = 1 ∧ V ((pw_g h 125 7).toNat + 1) = 1176170 := by rw [show (pw_g h 125 7).toNat + 1 = (pw_g h8 125 7).toNat by omega]; exact hwh
                  refine pw_ld E (pc' := 86) (st' := [.ref 141]) rfl (fun _ => rfl) ?_
                  refine pw_getR (b := 177) h57I E (c := 125) (k := 50) (pc' := 89) rfl rfl rfl rfl rfl rfl rfl ?_
                  refine pw_ld E (pc' := 90) (st' := [pw_i 0, .ref 177]) rfl (fun _ => rfl) ?_
                  refine pw_ld E (pc' := 91) (st' := [.ref 141, pw_i 0, .ref 177]) rfl (fun _ => rfl) ?_
                  refine pw_getI2 h57I E (c := 125) (k := 32) (pc' := 94) rfl rfl rfl rfl rfl rfl (fun hf59a hf59b => ?_)
                  have hb161 : ∀ j : Nat, pw_g h57 161 j = pw_g h 161 j := fun j => by rw [pw_Eg (c := 161) h8I h57E rfl rfl j, ← h8w, pw_g_ne (by omega)]
                  have hb146 : ∀ j : Nat, pw_g h57 146 j = pw_g h 146 j := fun j => by rw [pw_Eg (c := 146) h8I h57E rfl rfl j, ← h8w, pw_g_ne (by omega)]
                  have hb147 : ∀ j : Nat, pw_g h57 147 j = pw_g h 147 j := fun j => by rw [pw_Eg (c := 147) h8I h57E rfl rfl j, ← h8w, pw_g_ne (by omega)]
                  refine pw_ast0 h57I E (c := 161) (pc' := 95) rfl rfl rfl (by decide) rfl (by decide) (by omega) (by omega) rfl (by omega) (by omega) (by omega) (by omega) rfl ?_
                  intro h60I h60E
                  generalize h60w : pw_w h57 161 (Int.toNat 0) (pw_i (pw_g h57 125 32)) = h60 at h60I h60E ⊢
                  have h60F := h57F.tr (h60E.wk (W' := [125, 146, 147, 161]) (by first | rfl | simp))
                  have h607 : pw_g h60 125 7 = pw_g h57 125 7 := by rw [← h60w]; exact pw_g_ne (by omega)
                  have h608 : pw_g h60 125 8 = pw_g h57 125 8 := by rw [← h60w]; exact pw_g_ne (by omega)
                  have h6032 : pw_g h60 125 32 = pw_g h57 125 32 := by rw [← h60w]; exact pw_g_ne (by omega)
                  have h6045 : pw_g h60 125 45 = pw_g h57 125 45 := by rw [← h60w]; exact pw_g_ne (by omega)
                  have tAl : pw_A n h60 := ⟨hn1, by rw [pw_Eg (c := 127) h57I h60E rfl rfl]; exact tAt.2.1, by omega, by omega, by omega, by omega⟩
                  have tTl : pt_TK K V P 1 h60 := pt_TK.E h57I h60E tTt rfl (by omega)
                  have l1 : pw_g h60 161 k4_1.toNat = pw_g h57 125 32 := by rw [← h60w, show k4_1.toNat = Int.toNat 0 by omega]; exact pw_g_eqA h57I rfl (by omega) (by omega) (by omega)
                  have l2 : ∀ j : Nat, j ≠ k4_1.toNat → pw_g h60 161 j = pw_g h57 161 j := fun j hj => by rw [← h60w]; exact pw_g_ne (by omega)
                  have l3 : ∀ j : Nat, pw_g h60 146 j = pw_g h57 146 j ∧ pw_g h60 147 j = pw_g h57 147 j := fun j => ⟨by rw [← h60w]; exact pw_g_ne (by omega), by rw [← h60w]; exact pw_g_ne (by omega)⟩
                  refine pw_ld E (pc' := 96) (st' := [.ref 141]) rfl (fun _ => rfl) ?_
                  refine pw_ld E (pc' := 97) (st' := [pw_i 0, .ref 141]) rfl (fun _ => rfl) ?_
                  have hC1 : pt_CD h60 (pw_g h60 125 32) [] := ⟨by omega, by show _ = _ + (0 : Int); omega, trivial⟩
                  obtain ⟨f61l, f61h, -⟩ := pw_obj (c := 125) h60I rfl
                  refine pw_call (m' := 248) (As := [.ref 141, pw_i 0]) (rest := []) (ls'' := [some (.ref 141), some (pw_i 0), none]) (Nat.le_trans (by decide) hd) E rfl (fun _ => pw_iV rfl rfl rfl rfl (pw_cellI f61h rfl)) (rfl : pm_ent 248 = some (2, 3, 12, 4, pmc_248)) rfl rfl (pw_and (pt_S248 (dp := 0) (by omega) (by omega) (by omega) h60I tAl (by omega)) (pt_C248_all n K V P 1 ([]) (0) (pw_g h60 125 32) ([]) (by omega) h60I tAl (by omega) tTl hp3 (by omega) (by omega) hC1 trivial (by decide))) ?_
                  rintro h62 v63 ⟨⟨h62I, h62E, ⟨tAb, tRb⟩, rfl⟩, ⟨-, -, ⟨tTb, tMb⟩, -⟩⟩
                  refine ⟨_, rfl, ?_⟩
                  have h62F := h60F.tr (h62E.wk (W' := [125, 146, 147, 161]) (by first | rfl | simp))
                  show pw X d h62 279 100 [some (.ref 141), some (pw_i k4_1), some (pw_i k4_2)] [] _
                  have tBb := tAb.2.2
                  have tCb := tRb.1.2.2.2.1
                  have tDb := tRb.1.2.1
                  have tGb := tRb.1.2.2.1
                  refine pw_ld E (pc' := 101) (st' := [.ref 141]) rfl (fun _ => rfl) ?_
                  refine pw_ld E (pc' := 102) (st' := [pw_i 0, .ref 141]) rfl (fun _ => rfl) ?_
                  refine pw_ld E (pc' := 103) (st' := [pw_i 0, pw_i 0, .ref 141]) rfl (fun _ => rfl) ?_
                  obtain ⟨f64l, f64h, -⟩ := pw_obj (c := 125) h62I rfl
                  refine pw_call (m' := 255) (As := [.ref 141, pw_i 0, pw_i 0]) (rest := []) (ls'' := [some (.ref 141), some (pw_i 0), some (pw_i 0)]) (Nat.le_trans (by decide) hd) E rfl (fun _ => pw_iV rfl rfl rfl rfl (pw_cellI f64h rfl)) (rfl : pm_ent 255 = some (3, 3, 12, 4, pmc_255)) rfl rfl (cm_255_t (pw_dp hd (by decide)) h62I (0) (by omega) (by omega) (0) (by omega) (by omega) (by omega)) ?_
                  rintro h65 v66 ⟨h65I, h65E, hqem, rfl⟩
                  refine ⟨_, rfl, ?_⟩
                  have h65F := h62F.tr (h65E.wk (W' := [125, 146, 147, 161]) (by first | rfl | simp))
                  show pw X d h65 279 106 [some (.ref 141), some (pw_i k4_1), some (pw_i k4_2)] [] _
                  have tE7 := hqem.1.1
                  have tE8 := hqem.1.2.1
                  have tE32 := hqem.1.2.2.1
                  have tE45 := hqem.2
                  have tAec : pw_A n h65 := ⟨hn1, by rw [pw_Eg (c := 127) h62I h65E rfl rfl]; exact tAb.2.1, by omega, by omega, by omega, by omega⟩
                  have tTec : pt_TK K V P 1 h65 := pt_TK.E h62I h65E tTb rfl (by omega)
                  refine pw_goto E (pc' := 191) rfl (by decide) ?_
                  refine pw_ld E (pc' := 192) (st' := [.ref 141]) rfl (fun _ => rfl) ?_
                  refine pw_bip E (pc' := 194) rfl rfl (by decide) ?_
                  obtain ⟨f67l, f67h, -⟩ := pw_obj (c := 125) h65I rfl
                  refine pw_call (m' := 257) (As := [.ref 141, pw_i 59]) (rest := []) (ls'' := [some (.ref 141), some (pw_i 59)]) (Nat.le_trans (by decide) hd) E rfl (fun _ => pw_iV rfl rfl rfl rfl (pw_cellI f67h rfl)) (rfl : pm_ent 257 = some (2, 2, 12, 4, pmc_257)) rfl rfl (cm_257_t (pw_dp hd (by decide)) h65I (59) (by omega) (by omega) (by omega)) ?_
                  rintro h68 v69 ⟨h68I, h68E, hqtk, rfl⟩
                  refine ⟨_, rfl, ?_⟩
                  have h68F := h65F.tr (h68E.wk (W' := [125, 146, 147, 161]) (by first | rfl | simp))
                  show pw X d h68 279 197 [some (.ref 141), some (pw_i k4_1), some (pw_i k4_2)] [] _
                  have w9 := pt_sgI tTec (ch := 59) (by decide) (by decide)
                  have hw6 : pw_sg h65 59 = 1 → pw_g h65 125 7 < n := fun q => pw_A.lt tAec (by rw [tTec.1, (w9.resolve_right (fun z => by have := z.1; omega)).2.2.1]; decide)
                  have hPz := pw_gA (c := 128) (j := pw_g h65 125 7) h65I rfl (by decide) (by omega) (by omega)
                  have tAz : pw_A n h68 := ⟨hn1, by rw [pw_Eg (c := 127) h65I h68E rfl rfl]; exact tAec.2.1, by omega, by omega, by omega, by omega⟩
                  have tTz : pt_TK K V P 1 h68 := pt_TK.E h65I h68E tTec rfl (by omega)
                  refine pw_vret E rfl ?_
                  have hFO := pt_FOw k4_1
                  have hLN := pt_line_E2 (P := P) hw (by omega) hth (by omega) hwh
                  have hai : (pw_g h60 125 7).toNat = (pw_g h 125 7).toNat + 2 := by omega
                  rw [tTec.2.2.1] at hPz
                  have hqw := hqtk.2.1
                  rw [tTec.2.2.1] at hqw
                  rcases tMb with ⟨z, f⟩ | ⟨z, c3, k3, m3⟩
                  · have hE := pt_E_mf f
                    rw [hai] at hE
                    have n9 : pw_sg h65 59 ≠ 1 := fun q => by have := (w9.resolve_right (fun z => by have := z.1; omega)).2.1; omega
                    have z8 := (hqw n9).2.2 (by omega)
                    exact ⟨h68I, h68F, ⟨tTz, Or.inl ⟨by omega, by rw [hLN, hE]; show pw_g h62 125 8 = _; omega⟩⟩, rfl⟩
                  · rcases w9 with ⟨y1, -, yk, yv⟩ | ⟨y0, yn⟩
                    · have e7 : pw_g h65 125 7 = pw_g h62 125 7 := by omega
                      rw [e7] at yk yv
                      have hE := pt_E_end (P := P) m3 (by omega) yk yv
                      rw [hai] at hE
                      obtain ⟨u7, u8⟩ := hqtk.1 y1
                      have q6 := tRb.1.2.2.2.2.2
                      have hsame : ∀ j : Nat, (j : Int) < 4400 + pw_g h 125 32 → pw_g h68 146 j = pw_g h 146 j ∧ pw_g h68 147 j = pw_g h 147 j := fun j hj => by
                        obtain ⟨a1, a2⟩ := q6 j (by omega)
                        obtain ⟨b1, b2⟩ := l3 j
                        obtain ⟨d1, d2⟩ := hqem.1.2.2.2.2.2 j (by omega)
                        rw [pw_Eg (c := 146) h65I h68E rfl rfl j, pw_Eg (c := 147) h65I h68E rfl rfl j, d1, d2, a1, a2, b1, b2, hb146, hb147]
                        exact ⟨rfl, rfl⟩
                      have c161 : ∀ j : Nat, pw_g h68 161 j = pw_g h60 161 j := fun j => by rw [pw_Eg (c := 161) h65I h68E rfl rfl j, pw_Eg (c := 161) h62I h65E rfl rfl j, pw_Eg (c := 161) h60I h62E rfl rfl j]
                      have e32 : pw_g h60 125 32 = pw_g h 125 32 := by omega
                      rw [e32] at k3
                      have k3b := k3.2.1
                      have sg : pt_SG h68 (pw_g h 125 32) c3 := ⟨k3.2.2.cg (fun j hj => by obtain ⟨d1, d2⟩ := hqem.1.2.2.2.2.2 ((4400 + pw_g h 125 32).toNat + j) (by omega); rw [pw_Eg (c := 146) h65I h68E rfl rfl _, pw_Eg (c := 147) h65I h68E rfl rfl _]; exact ⟨d1, d2⟩), by rw [pw_Eg (c := 146) h65I h68E rfl rfl _, show 4400 + pw_g h 125 32 + (c3.length : Int) = 4400 + pw_g h62 125 32 by omega]; exact hqem.1.2.2.2.1, by omega⟩
                      have hMW := hp6.add (w := k4_1) (v := pw_g h 125 32) (x := 0) (c := c3) (by omega) (by omega) (fun k hk => (c161 k).trans ((l2 k hk).trans (hb161 k))) ((c161 _).trans (by omega)) (by omega) hsame (fun _ => sg) (fun q => by exfalso; omega) (by omega)
                      exact ⟨h68I, h68F, ⟨tTz, Or.inr ⟨by omega, by rw [hLN, hE], by rw [hLN, hE]; show pw_g h68 125 7 = pw_g h62 125 7 + 1; omega, by rw [hLN, hE]; exact hMW⟩⟩, rfl⟩
                    · have e7 : pw_g h65 125 7 = pw_g h62 125 7 := by omega
                      obtain ⟨u7, u8, -⟩ := hqw (by omega)
                      have u8 := u8 (by omega)
                      rw [e7] at u8 yn
                      have hE := pt_E_mf (pt_GG.noend m3 (by omega) (fun q => yn ⟨by omega, q.1, q.2⟩) u8)
                      rw [hai] at hE
                      exact ⟨h68I, h68F, ⟨tTz, Or.inl ⟨by omega, by rw [hLN, hE]⟩⟩, rfl⟩
                · have hw4 : pw_wd h8 4 ≠ 1 := hw4
                  obtain ⟨t7, t8, -⟩ := hqtk.2.1 hw4
                  have t8 := t8 (by omega)
                  have hwn := (w4.resolve_left (fun z => by have := z.1; omega)).2
                  have hwn : ¬ (K ((pw_g h 125 7).toNat + 1) = 1 ∧ V ((pw_g h 125 7).toNat + 1) = 1176170) := by rw [show (pw_g h 125 7).toNat + 1 = (pw_g h8 125 7).toNat by omega]; exact fun z => hwn ⟨by omega, z⟩
                  have hpl := pw_gA (c := 128) (j := pw_g h8 125 7) h8I rfl (by decide) (by omega) (by omega)
                  have hpE : pw_g h8 128 (pw_g h8 125 7).toNat = P ((pw_g h 125 7).toNat + 1) := by rw [tTw.2.2.1, show (pw_g h 125 7).toNat + 1 = (pw_g h8 125 7).toNat by omega]
                  refine pw_ld E (pc' := 86) (st' := [.ref 141]) rfl (fun _ => rfl) ?_
                  refine pw_getR (b := 177) h57I E (c := 125) (k := 50) (pc' := 89) rfl rfl rfl rfl rfl rfl rfl ?_
                  refine pw_ld E (pc' := 90) (st' := [pw_i 0, .ref 177]) rfl (fun _ => rfl) ?_
                  refine pw_ld E (pc' := 91) (st' := [.ref 141, pw_i 0, .ref 177]) rfl (fun _ => rfl) ?_
                  refine pw_getI2 h57I E (c := 125) (k := 32) (pc' := 94) rfl rfl rfl rfl rfl rfl (fun hf70a hf70b => ?_)
                  have hb161 : ∀ j : Nat, pw_g h57 161 j = pw_g h 161 j := fun j => by rw [pw_Eg (c := 161) h8I h57E rfl rfl j, ← h8w, pw_g_ne (by omega)]
                  have hb146 : ∀ j : Nat, pw_g h57 146 j = pw_g h 146 j := fun j => by rw [pw_Eg (c := 146) h8I h57E rfl rfl j, ← h8w, pw_g_ne (by omega)]
                  have hb147 : ∀ j : Nat, pw_g h57 147 j = pw_g h 147 j := fun j => by rw [pw_Eg (c := 147) h8I h57E rfl rfl j, ← h8w, pw_g_ne (by omega)]
                  refine pw_ast0 h57I E (c := 161) (pc' := 95) rfl rfl rfl (by decide) rfl (by decide) (by omega) (by omega) rfl (by omega) (by omega) (by omega) (by omega) rfl ?_
                  intro h71I h71E
                  generalize h71w : pw_w h57 161 (Int.toNat 0) (pw_i (pw_g h57 125 32)) = h71 at h71I h71E ⊢
                  have h71F := h57F.tr (h71E.wk (W' := [125, 146, 147, 161]) (by first | rfl | simp))
                  have h717 : pw_g h71 125 7 = pw_g h57 125 7 := by rw [← h71w]; exact pw_g_ne (by omega)
                  have h718 : pw_g h71 125 8 = pw_g h57 125 8 := by rw [← h71w]; exact pw_g_ne (by omega)
                  have h7132 : pw_g h71 125 32 = pw_g h57 125 32 := by rw [← h71w]; exact pw_g_ne (by omega)
                  have h7145 : pw_g h71 125 45 = pw_g h57 125 45 := by rw [← h71w]; exact pw_g_ne (by omega)
                  have tAl : pw_A n h71 := ⟨hn1, by rw [pw_Eg (c := 127) h57I h71E rfl rfl]; exact tAt.2.1, by omega, by omega, by omega, by omega⟩
                  have tTl : pt_TK K V P 1 h71 := pt_TK.E h57I h71E tTt rfl (by omega)
                  have l1 : pw_g h71 161 k4_1.toNat = pw_g h57 125 32 := by rw [← h71w, show k4_1.toNat = Int.toNat 0 by omega]; exact pw_g_eqA h57I rfl (by omega) (by omega) (by omega)
                  have l2 : ∀ j : Nat, j ≠ k4_1.toNat → pw_g h71 161 j = pw_g h57 161 j := fun j hj => by rw [← h71w]; exact pw_g_ne (by omega)
                  have l3 : ∀ j : Nat, pw_g h71 146 j = pw_g h57 146 j ∧ pw_g h71 147 j = pw_g h57 147 j := fun j => ⟨by rw [← h71w]; exact pw_g_ne (by omega), by rw [← h71w]; exact pw_g_ne (by omega)⟩
                  refine pw_ld E (pc' := 96) (st' := [.ref 141]) rfl (fun _ => rfl) ?_
                  refine pw_ld E (pc' := 97) (st' := [pw_i 0, .ref 141]) rfl (fun _ => rfl) ?_
                  have hC1 : pt_CD h71 (pw_g h71 125 32) [] := ⟨by omega, by show _ = _ + (0 : Int); omega, trivial⟩
                  obtain ⟨f72l, f72h, -⟩ := pw_obj (c := 125) h71I rfl
                  refine pw_call (m' := 248) (As := [.ref 141, pw_i 0]) (rest := []) (ls'' := [some (.ref 141), some (pw_i 0), none]) (Nat.le_trans (by decide) hd) E rfl (fun _ => pw_iV rfl rfl rfl rfl (pw_cellI f72h rfl)) (rfl : pm_ent 248 = some (2, 3, 12, 4, pmc_248)) rfl rfl (cm_248_z (pw_dp hd (by decide)) h71I (0) (by omega) (by omega) n tAl (by omega)) ?_
                  rintro u74 v73 ⟨rfl, rfl⟩
                  refine ⟨_, rfl, ?_⟩
                  show pw X d h71 279 100 [some (.ref 141), some (pw_i k4_1), some (pw_i k4_2)] [] _
                  refine pw_ld E (pc' := 101) (st' := [.ref 141]) rfl (fun _ => rfl) ?_
                  refine pw_ld E (pc' := 102) (st' := [pw_i 0, .ref 141]) rfl (fun _ => rfl) ?_
                  refine pw_ld E (pc' := 103) (st' := [pw_i 0, pw_i 0, .ref 141]) rfl (fun _ => rfl) ?_
                  obtain ⟨f75l, f75h, -⟩ := pw_obj (c := 125) h71I rfl
                  refine pw_call (m' := 255) (As := [.ref 141, pw_i 0, pw_i 0]) (rest := []) (ls'' := [some (.ref 141), some (pw_i 0), some (pw_i 0)]) (Nat.le_trans (by decide) hd) E rfl (fun _ => pw_iV rfl rfl rfl rfl (pw_cellI f75h rfl)) (rfl : pm_ent 255 = some (3, 3, 12, 4, pmc_255)) rfl rfl (cm_255_t (pw_dp hd (by decide)) h71I (0) (by omega) (by omega) (0) (by omega) (by omega) (by omega)) ?_
                  rintro h76 v77 ⟨h76I, h76E, hqem, rfl⟩
                  refine ⟨_, rfl, ?_⟩
                  have h76F := h71F.tr (h76E.wk (W' := [125, 146, 147, 161]) (by first | rfl | simp))
                  show pw X d h76 279 106 [some (.ref 141), some (pw_i k4_1), some (pw_i k4_2)] [] _
                  have tE7 := hqem.1.1
                  have tE8 := hqem.1.2.1
                  have tE32 := hqem.1.2.2.1
                  have tE45 := hqem.2
                  have tAec : pw_A n h76 := ⟨hn1, by rw [pw_Eg (c := 127) h71I h76E rfl rfl]; exact tAl.2.1, by omega, by omega, by omega, by omega⟩
                  have tTec : pt_TK K V P 1 h76 := pt_TK.E h71I h76E tTl rfl (by omega)
                  refine pw_goto E (pc' := 191) rfl (by decide) ?_
                  refine pw_ld E (pc' := 192) (st' := [.ref 141]) rfl (fun _ => rfl) ?_
                  refine pw_bip E (pc' := 194) rfl rfl (by decide) ?_
                  obtain ⟨f78l, f78h, -⟩ := pw_obj (c := 125) h76I rfl
                  refine pw_call (m' := 257) (As := [.ref 141, pw_i 59]) (rest := []) (ls'' := [some (.ref 141), some (pw_i 59)]) (Nat.le_trans (by decide) hd) E rfl (fun _ => pw_iV rfl rfl rfl rfl (pw_cellI f78h rfl)) (rfl : pm_ent 257 = some (2, 2, 12, 4, pmc_257)) rfl rfl (cm_257_t (pw_dp hd (by decide)) h76I (59) (by omega) (by omega) (by omega)) ?_
                  rintro h79 v80 ⟨h79I, h79E, hqtk, rfl⟩
                  refine ⟨_, rfl, ?_⟩
                  have h79F := h76F.tr (h79E.wk (W' := [125, 146, 147, 161]) (by first | rfl | simp))
                  show pw X d h79 279 197 [some (.ref 141), some (pw_i k4_1), some (pw_i k4_2)] [] _
                  have w9 := pt_sgI tTec (ch := 59) (by decide) (by decide)
                  have hw6 : pw_sg h76 59 = 1 → pw_g h76 125 7 < n := fun q => pw_A.lt tAec (by rw [tTec.1, (w9.resolve_right (fun z => by have := z.1; omega)).2.2.1]; decide)
                  have hPz := pw_gA (c := 128) (j := pw_g h76 125 7) h76I rfl (by decide) (by omega) (by omega)
                  have tAz : pw_A n h79 := ⟨hn1, by rw [pw_Eg (c := 127) h76I h79E rfl rfl]; exact tAec.2.1, by omega, by omega, by omega, by omega⟩
                  have tTz : pt_TK K V P 1 h79 := pt_TK.E h76I h79E tTec rfl (by omega)
                  refine pw_vret E rfl ?_
                  have hFO := pt_FOw k4_1
                  have n9 : pw_sg h76 59 ≠ 1 := fun q => by have := (w9.resolve_right (fun z => by have := z.1; omega)).2.1; omega
                  have z8 := (hqtk.2.1 n9).2.2 (by omega)
                  exact ⟨h79I, h79F, ⟨tTz, Or.inl ⟨by omega, (pt_line_nw hw (by omega) hth (by omega) hwn).trans (by omega)⟩⟩, rfl⟩
            · intro hc81
              change ¬ (pw_g h 125 8 ≤ (0 : Int)) at hc81
              exfalso; omega
          · intro hc82
            change ¬ (pw_g h 161 (k4_1.toNat) < (0 : Int)) at hc82
            have hth : th k4_1 ≠ 0 := by rcases hml with ⟨q, -⟩ | ⟨-, q⟩ <;> omega
            refine pw_ld E (pc' := 54) (st' := [.ref 141]) rfl (fun _ => rfl) ?_
            refine pw_ld E (pc' := 55) (st' := [pw_i 3, .ref 141]) rfl (fun _ => rfl) ?_
            obtain ⟨f83l, f83h, -⟩ := pw_obj (c := 125) I rfl
            refine pw_call (m' := 245) (As := [.ref 141, pw_i 3]) (rest := []) (ls'' := [some (.ref 141), some (pw_i 3)]) (Nat.le_trans (by decide) hd) E rfl (fun _ => pw_iV rfl rfl rfl rfl (pw_cellI f83h rfl)) (rfl : pm_ent 245 = some (2, 2, 12, 4, pmc_245)) rfl rfl (cm_245_t (pw_dp hd (by decide)) I (3) (by omega) (by omega)) ?_
            rintro h84 v85 ⟨h84I, h84E, hqwr, rfl⟩
            refine ⟨_, rfl, ?_⟩
            have h84F := E0.tr (h84E.wk (W' := [125, 146, 147, 161]) (by first | rfl | simp))
            show pw X d h84 279 58 [some (.ref 141), some (pw_i k4_1), some (pw_i k4_2)] [] _
            have hPw := pw_gA (c := 128) (j := pw_g h 125 7) I rfl (by decide) (by omega) (by omega)
            have hwf := hqwr.1 hp4
            have tAx : pw_A n h84 := ⟨hn1, by rw [pw_Eg (c := 127) I h84E rfl rfl]; exact hp0.2.1, by omega, by omega, by omega, by omega⟩
            have tTx : pt_TK K V P 1 h84 := pt_TK.E I h84E hp2 rfl (by omega)
            rw [hp2.2.2.1] at hwf
            have hf0 : pw_g h84 125 8 ≠ 0 := by rw [hp2.2.2.1] at hPw; omega
            have hln : (pt_line 1 K V P th (pw_g h 125 7).toNat).1 = pw_g h84 125 8 := (pt_line_t3 hw (by omega) hth).trans hwf.symm
            refine pw_ld E (pc' := 59) (st' := [.ref 141]) rfl (fun _ => rfl) ?_
            refine pw_getI2 h84I E (c := 125) (k := 8) (pc' := 62) rfl rfl rfl rfl rfl rfl (fun hf86a hf86b => ?_)
            refine pw_if E (pc' := 66) rfl (by decide) (by omega) (by omega) ?_ ?_
            · intro hc87
              change pw_g h84 125 8 ≤ (0 : Int) at hc87
              exfalso; omega
            · intro hc88
              change ¬ (pw_g h84 125 8 ≤ (0 : Int)) at hc88
              refine pw_vret E rfl ?_
              exact ⟨h84I, h84F, ⟨tTx, Or.inl ⟨hf0, hln⟩⟩, rfl⟩
        · intro hc89
          change ¬ ((0 : Int) ≤ k4_1) at hc89
          refine pw_ld E (pc' := 37) (st' := [.ref 141]) rfl (fun _ => rfl) ?_
          refine pw_ld E (pc' := 38) (st' := [pw_i 1, .ref 141]) rfl (fun _ => rfl) ?_
          obtain ⟨f90l, f90h, -⟩ := pw_obj (c := 125) I rfl
          refine pw_call (m' := 245) (As := [.ref 141, pw_i 1]) (rest := []) (ls'' := [some (.ref 141), some (pw_i 1)]) (Nat.le_trans (by decide) hd) E rfl (fun _ => pw_iV rfl rfl rfl rfl (pw_cellI f90h rfl)) (rfl : pm_ent 245 = some (2, 2, 12, 4, pmc_245)) rfl rfl (cm_245_t (pw_dp hd (by decide)) I (1) (by omega) (by omega)) ?_
          rintro h91 v92 ⟨h91I, h91E, hqwr, rfl⟩
          refine ⟨_, rfl, ?_⟩
          have h91F := E0.tr (h91E.wk (W' := [125, 146, 147, 161]) (by first | rfl | simp))
          show pw X d h91 279 41 [some (.ref 141), some (pw_i k4_1), some (pw_i k4_2)] [] _
          refine pw_goto E (pc' := 58) rfl (by decide) ?_
          have hPw := pw_gA (c := 128) (j := pw_g h 125 7) I rfl (by decide) (by omega) (by omega)
          have hwf := hqwr.1 hp4
          have tAx : pw_A n h91 := ⟨hn1, by rw [pw_Eg (c := 127) I h91E rfl rfl]; exact hp0.2.1, by omega, by omega, by omega, by omega⟩
          have tTx : pt_TK K V P 1 h91 := pt_TK.E I h91E hp2 rfl (by omega)
          rw [hp2.2.2.1] at hwf
          have hf0 : pw_g h91 125 8 ≠ 0 := by rw [hp2.2.2.1] at hPw; omega
          have hln : (pt_line 1 K V P th (pw_g h 125 7).toNat).1 = pw_g h91 125 8 := (pt_line_w1 (by omega)).trans hwf.symm
          refine pw_ld E (pc' := 59) (st' := [.ref 141]) rfl (fun _ => rfl) ?_
          refine pw_getI2 h91I E (c := 125) (k := 8) (pc' := 62) rfl rfl rfl rfl rfl rfl (fun hf93a hf93b => ?_)
          refine pw_if E (pc' := 66) rfl (by decide) (by omega) (by omega) ?_ ?_
          · intro hc94
            change pw_g h91 125 8 ≤ (0 : Int) at hc94
            exfalso; omega
          · intro hc95
            change ¬ (pw_g h91 125 8 ≤ (0 : Int)) at hc95
            refine pw_vret E rfl ?_
            exact ⟨h91I, h91F, ⟨tTx, Or.inl ⟨hf0, hln⟩⟩, rfl⟩
      · intro hc96
        change ¬ ((4 : Int) ≤ k4_2) at hc96
        refine pw_ld E (pc' := 10) (st' := [.ref 141]) rfl (fun _ => rfl) ?_
        refine pw_bip E (pc' := 12) rfl rfl (by decide) ?_
        refine pw_ld E (pc' := 13) (st' := [pw_i k4_2, pw_i 18, .ref 141]) rfl (fun _ => rfl) ?_
        refine pw_add E (pc' := 14) rfl rfl ?_
        obtain ⟨f97l, f97h, -⟩ := pw_obj (c := 125) I rfl
        refine pw_call (m' := 244) (As := [.ref 141, pw_i (18 + k4_2)]) (rest := []) (ls'' := [some (.ref 141), some (pw_i (18 + k4_2))]) (Nat.le_trans (by decide) hd) E rfl (fun _ => pw_iV rfl rfl rfl rfl (pw_cellI f97h rfl)) (rfl : pm_ent 244 = some (2, 2, 12, 1, pmc_244)) rfl rfl (cm_244 (pw_dp hd (by decide)) I (18 + k4_2) (by omega) (by omega)) ?_
        rintro u99 v98 ⟨rfl, x100, rfl, hx100a, hx100b, hx100r⟩
        refine ⟨_, rfl, ?_⟩
        show pw X d h 279 17 [some (.ref 141), some (pw_i k4_1), some (pw_i k4_2)] [pw_i x100] _
        change x100 = pw_wd h (18 + k4_2) ∧ (x100 = 1 → pw_g h 125 8 = 0 ∧ pw_g h 127 (pw_g h 125 7).toNat = 1) at hx100r
        rcases (by omega : x100 = 1 ∨ x100 = 0) with hb101 | hb101
        · skip
          have o1 := pt_wdI hp2 (w := 18 + k4_2) (by omega) (by omega)
          rw [← hx100r.1, show (18 + k4_2).toNat = 18 + k4_2.toNat by omega] at o1
          have o2 := pt_fI.st hx4_0 (by omega) o1
          refine pw_if E (pc' := 24) rfl (by decide) (by omega) (by omega) ?_ ?_
          · intro hc102
            change x100 = (0 : Int) at hc102
            exfalso; omega
          · intro hc103
            change ¬ (x100 = (0 : Int)) at hc103
            refine pw_ld E (pc' := 21) (st' := [pw_i k4_2]) rfl (fun _ => rfl) ?_
            refine pw_goto E (pc' := 25) rfl (by decide) ?_
            refine pw_istn E (pc' := 26) (ls' := [some (.ref 141), some (pw_i k4_2), some (pw_i k4_2)]) rfl rfl rfl rfl ?_
            have o3 := o2.1 (by omega)
            refine pw_inc E (pc' := 29) (ls' := [some (.ref 141), some (pw_i k4_2), some (pw_i (k4_2 + 1))]) rfl rfl rfl rfl ?_
            refine pw_goto E (pc' := 4) rfl (by decide) ?_
            exact ih4 _ (by omega) (k4_2) (k4_2 + 1)  (by omega) (by omega) (by omega) (by omega) o3 rfl
        · skip
          have o1 := pt_wdI hp2 (w := 18 + k4_2) (by omega) (by omega)
          rw [← hx100r.1, show (18 + k4_2).toNat = 18 + k4_2.toNat by omega] at o1
          have o2 := pt_fI.st hx4_0 (by omega) o1
          refine pw_if E (pc' := 24) rfl (by decide) (by omega) (by omega) ?_ ?_
          · intro hc105
            change x100 = (0 : Int) at hc105
            refine pw_ld E (pc' := 25) (st' := [pw_i k4_1]) rfl (fun _ => rfl) ?_
            refine pw_istn E (pc' := 26) (ls' := [some (.ref 141), some (pw_i k4_1), some (pw_i k4_2)]) rfl rfl rfl rfl ?_
            have o3 := o2.2 (by omega)
            refine pw_inc E (pc' := 29) (ls' := [some (.ref 141), some (pw_i k4_1), some (pw_i (k4_2 + 1))]) rfl rfl rfl rfl ?_
            refine pw_goto E (pc' := 4) rfl (by decide) ?_
            exact ih4 _ (by omega) (k4_1) (k4_2 + 1)  (by omega) (by omega) (by omega) (by omega) o3 rfl
          · intro hc106
            change ¬ (x100 = (0 : Int)) at hc106
            exfalso; omega
  exact L4 _ ((-1)) (0)  (by omega) (by omega) (by omega) (by omega) pt_fI.z rfl
