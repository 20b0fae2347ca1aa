section
/-! a writer's text of the model, exactly -/
set_option maxHeartbeats 4000000 in
theorem cm_277_t {X : List (Nat × List Value)} {d : Nat} {h : pm_H} (hd : 34 ≤ d) (I : pw_I h) (ix : Int) (hix1 : (-2147483648) ≤ ix) (hix2 : ix ≤ 2147483647) (hp0 : pw_K h) (hp1 : pt_WK h) : pw X d h 277 0 [some (.ref 141), some (pw_i ix), none] [] (fun h' v => pw_I h' ∧ pw_E [125, 127, 128, 129, 146, 147, 157, 158, 159, 160, 161, 1002] h h' ∧ (pw_K h') ∧ (∃ a : Int, v = .inl (some (pw_i a)) ∧ (-2147483648) ≤ a ∧ a ≤ 2147483647 ∧ (pw_g h' 125 2 = 0 ∧ (¬ (0 ≤ ix ∧ ix ≤ 3) → a = -1) ∧ (0 ≤ ix → ix ≤ 3 → ∃ L : List pt_tok, pt_sg (pw_g h 126) (pw_g h 125 2).toNat 0 L (pw_g h 125 2).toNat ∧ a = (pt_TX 1 L (pw_g h 125 2).toNat).1)))) := by
  have E : pm_ent 277 = some (2, 3, 12, 0, pmc_277) := rfl
  have E0 : pw_E [125, 127, 128, 129, 146, 147, 157, 158, 159, 160, 161, 1002] h h := pw_E.rf _ _
  refine pw_ld E (pc' := 1) (st' := [.ref 141]) rfl (fun _ => rfl) ?_
  refine pw_ld E (pc' := 2) (st' := [pw_i 0, .ref 141]) rfl (fun _ => rfl) ?_
  refine pw_putI I E (c := 125) (k := 0) (pc' := 5) rfl rfl rfl rfl (by omega) (by omega) (by omega) (by omega) rfl rfl ?_
  intro h1I h1E
  generalize h1w : pw_w h 125 0 (pw_i 0) = h1 at h1I h1E ⊢
  have h1F := E0.tr (h1E.wk (W' := [125, 127, 128, 129, 146, 147, 157, 158, 159, 160, 161, 1002]) (by first | rfl | simp))
  refine pw_ld E (pc' := 6) (st' := [pw_i ix]) rfl (fun _ => rfl) ?_
  refine pw_call (m' := 278) (As := [pw_i ix]) (rest := []) (ls'' := [some (pw_i ix)]) (Nat.le_trans (by decide) hd) E rfl (fun _ => pw_iS rfl rfl rfl) (rfl : pm_ent 278 = some (1, 1, 12, 1, pmc_278)) rfl rfl (cm_278 (pw_dp hd (by decide)) h1I (ix) (by omega) (by omega)) ?_
  rintro u3 v2 ⟨rfl, x4, rfl, hx4a, hx4b, hx4r⟩
  refine ⟨_, rfl, ?_⟩
  show pw X d h1 277 9 [some (.ref 141), some (pw_i ix), none] [pw_i x4] _
  change (x4 = 1 ∧ 0 ≤ ix ∧ ix ≤ 3) ∨ (x4 = 0 ∧ ¬ (0 ≤ ix ∧ ix ≤ 3)) at hx4r
  rcases (by omega : x4 = 1 ∨ x4 = 0) with hb5 | hb5
  · skip
    refine pw_if E (pc' := 19) rfl (by decide) (by omega) (by omega) ?_ ?_
    · intro hc6
      change x4 ≠ (0 : Int) at hc6
      refine pw_ld E (pc' := 20) (st' := [.ref 141]) rfl (fun _ => rfl) ?_
      obtain ⟨f7l, f7h, -⟩ := pw_obj (c := 125) h1I rfl
      refine pw_call (m' := 238) (As := [.ref 141]) (rest := []) (ls'' := [some (.ref 141), none, none, none, none, none, none]) (Nat.le_trans (by decide) hd) E rfl (fun _ => pw_iV rfl rfl rfl rfl (pw_cellI f7h rfl)) (rfl : pm_ent 238 = some (1, 7, 12, 4, pmc_238)) rfl rfl (cm_238_t (pw_dp hd (by decide)) h1I ) ?_
      rintro h8 v9 ⟨h8I, h8E, hqtok, rfl⟩
      refine ⟨_, rfl, ?_⟩
      have h8F := h1F.tr (h8E.wk (W' := [125, 127, 128, 129, 146, 147, 157, 158, 159, 160, 161, 1002]) (by first | rfl | simp))
      show pw X d h8 277 23 [some (.ref 141), some (pw_i ix), none] [] _
      obtain ⟨L, hA0, hz7, hz8, hsg, hLI, hKn, hPn, ht2⟩ := hqtok
      have hZ : pw_g h1 125 2 = pw_g h 125 2 := by rw [← h1w]; exact pw_g_ne (by omega)
      have hT : pw_g h1 126 = pw_g h 126 := funext fun j => by rw [← h1w]; exact pw_g_ne (by omega)
      rw [hZ, hT] at hsg
      rw [hZ] at hPn
      have hz0 : 0 ≤ pw_g h 125 2 := (pw_gI (c := 125) (k := 2) I rfl rfl).1
      have hAG := pt_AG.of hLI hKn hPn hz0
      have hnv : ∀ j : Nat, j < L.length → pw_g h8 127 j = 2 → 0 ≤ pw_gm h8 129 j ∧ pw_gm h8 129 j ≤ 9999 := fun j hj q => by obtain ⟨a, b, -⟩ := hLI j hj; rw [a] at q; rw [b]; exact hsg.nv j q
      have hTX := pt_text_ag (wr := 1) hAG (L.length + 1) 0 (fun _ => 0) (fun _ => []) (fun _ => 0) (by omega)
      have hWc : pt_WK h8 := hp1.E I h8F rfl
      have hKK : ∃ K : Nat → Int, K = pw_g h8 127 := ⟨_, rfl⟩
      have hVV : ∃ V : Nat → Int, V = pw_gm h8 129 := ⟨_, rfl⟩
      have hPP : ∃ P : Nat → Int, P = pw_g h8 128 := ⟨_, rfl⟩
      obtain ⟨K, hK⟩ := hKK
      obtain ⟨V, hV⟩ := hVV
      obtain ⟨P, hP⟩ := hPP
      rw [← hK, ← hV, ← hP] at hTX
      have hV0 := hnv
      rw [← hK, ← hV] at hnv
      rw [← hK] at hKn
      have hRR : ∃ R : pt_TR, R = pt_text 1 K V P (L.length + 1) 0 (fun _ => 0) (fun _ => []) (fun _ => 0) := ⟨_, rfl⟩
      obtain ⟨R, hR⟩ := hRR
      have hRX : R = pt_TX 1 L (pw_g h 125 2).toNat := hR.trans hTX
      have hnn : ∃ n : Nat, n = L.length := ⟨_, rfl⟩
      obtain ⟨n, hn⟩ := hnn
      rw [← hn] at hA0 hnv hV0 hR hKn
      refine pw_ld E (pc' := 24) (st' := [.ref 141]) rfl (fun _ => rfl) ?_
      refine pw_ld E (pc' := 25) (st' := [pw_i 0, .ref 141]) rfl (fun _ => rfl) ?_
      refine pw_putI h8I E (c := 125) (k := 32) (pc' := 28) rfl rfl rfl rfl (by omega) (by omega) (by omega) (by omega) rfl rfl ?_
      intro h10I h10E
      generalize h10w : pw_w h8 125 32 (pw_i 0) = h10 at h10I h10E ⊢
      have h10F := h8F.tr (h10E.wk (W' := [125, 127, 128, 129, 146, 147, 157, 158, 159, 160, 161, 1002]) (by first | rfl | simp))
      refine pw_ld E (pc' := 29) (st' := [.ref 141]) rfl (fun _ => rfl) ?_
      refine pw_ld E (pc' := 30) (st' := [pw_i 1, .ref 141]) rfl (fun _ => rfl) ?_
      refine pw_putZ h10I E (c := 125) (k := 45) (pc' := 33) rfl rfl rfl rfl (by omega) (by omega) (by omega) rfl rfl ?_
      intro h11I h11E
      generalize h11w : pw_w h10 125 45 (pw_i 1) = h11 at h11I h11E ⊢
      have h11F := h10F.tr (h11E.wk (W' := [125, 127, 128, 129, 146, 147, 157, 158, 159, 160, 161, 1002]) (by first | rfl | simp))
      refine pw_ld E (pc' := 34) (st' := [pw_i 0]) rfl (fun _ => rfl) ?_
      refine pw_istn E (pc' := 35) (ls' := [some (.ref 141), some (pw_i ix), some (pw_i 0)]) rfl rfl rfl rfl ?_
      refine pw_ld E (pc' := 36) (st' := [pw_i 0]) rfl (fun _ => rfl) ?_
      refine pw_ld E (pc' := 37) (st' := [pw_i 4, pw_i 0]) rfl (fun _ => rfl) ?_
      refine pw_if2 E (pc' := 53) rfl (by decide) (by decide) (by decide) (by decide) (by decide) ?_ ?_
      · intro hc12
        change (4 : Int) ≤ (0 : Int) at hc12
        exfalso; omega
      · intro hc13
        change ¬ ((4 : Int) ≤ (0 : Int)) at hc13
        refine pw_ld E (pc' := 41) (st' := [.ref 141]) rfl (fun _ => rfl) ?_
        refine pw_getR (b := 177) h11I E (c := 125) (k := 50) (pc' := 44) rfl rfl rfl rfl rfl rfl rfl ?_
        refine pw_ld E (pc' := 45) (st' := [pw_i 0, .ref 177]) rfl (fun _ => rfl) ?_
        refine pw_ld E (pc' := 46) (st' := [pw_i ((-1)), pw_i 0, .ref 177]) rfl (fun _ => rfl) ?_
        refine pw_ast0 h11I E (c := 161) (pc' := 47) rfl rfl rfl (by decide) rfl (by decide) (by omega) (by omega) rfl (by omega) (by omega) (by omega) (by omega) rfl ?_
        intro h14I h14E
        generalize h14w : pw_w h11 161 (Int.toNat 0) (pw_i ((-1))) = h14 at h14I h14E ⊢
        have h14F := h11F.tr (h14E.wk (W' := [125, 127, 128, 129, 146, 147, 157, 158, 159, 160, 161, 1002]) (by first | rfl | simp))
        refine pw_inc E (pc' := 50) (ls' := [some (.ref 141), some (pw_i ix), some (pw_i (0 + 1))]) rfl rfl rfl rfl ?_
        refine pw_goto E (pc' := 35) rfl (by decide) ?_
        refine pw_ld E (pc' := 36) (st' := [pw_i (0 + 1)]) rfl (fun _ => rfl) ?_
        refine pw_ld E (pc' := 37) (st' := [pw_i 4, pw_i (0 + 1)]) rfl (fun _ => rfl) ?_
        refine pw_if2 E (pc' := 53) rfl (by decide) (by decide) (by decide) (by decide) (by decide) ?_ ?_
        · intro hc15
          change (4 : Int) ≤ 0 + 1 at hc15
          exfalso; omega
        · intro hc16
          change ¬ ((4 : Int) ≤ 0 + 1) at hc16
          refine pw_ld E (pc' := 41) (st' := [.ref 141]) rfl (fun _ => rfl) ?_
          refine pw_getR (b := 177) h14I E (c := 125) (k := 50) (pc' := 44) rfl rfl rfl rfl rfl rfl rfl ?_
          refine pw_ld E (pc' := 45) (st' := [pw_i (0 + 1), .ref 177]) rfl (fun _ => rfl) ?_
          refine pw_ld E (pc' := 46) (st' := [pw_i ((-1)), pw_i (0 + 1), .ref 177]) rfl (fun _ => rfl) ?_
          refine pw_ast0 h14I E (c := 161) (pc' := 47) rfl rfl rfl (by decide) rfl (by decide) (by omega) (by omega) rfl (by omega) (by omega) (by omega) (by omega) rfl ?_
          intro h17I h17E
          generalize h17w : pw_w h14 161 (((0 + 1) : Int).toNat) (pw_i ((-1))) = h17 at h17I h17E ⊢
          have h17F := h14F.tr (h17E.wk (W' := [125, 127, 128, 129, 146, 147, 157, 158, 159, 160, 161, 1002]) (by first | rfl | simp))
          refine pw_inc E (pc' := 50) (ls' := [some (.ref 141), some (pw_i ix), some (pw_i ((0 + 1) + 1))]) rfl rfl rfl rfl ?_
          refine pw_goto E (pc' := 35) rfl (by decide) ?_
          refine pw_ld E (pc' := 36) (st' := [pw_i ((0 + 1) + 1)]) rfl (fun _ => rfl) ?_
          refine pw_ld E (pc' := 37) (st' := [pw_i 4, pw_i ((0 + 1) + 1)]) rfl (fun _ => rfl) ?_
          refine pw_if2 E (pc' := 53) rfl (by decide) (by decide) (by decide) (by decide) (by decide) ?_ ?_
          · intro hc18
            change (4 : Int) ≤ (0 + 1) + 1 at hc18
            exfalso; omega
          · intro hc19
            change ¬ ((4 : Int) ≤ (0 + 1) + 1) at hc19
            refine pw_ld E (pc' := 41) (st' := [.ref 141]) rfl (fun _ => rfl) ?_
            refine pw_getR (b := 177) h17I E (c := 125) (k := 50) (pc' := 44) rfl rfl rfl rfl rfl rfl rfl ?_
            refine pw_ld E (pc' := 45) (st' := [pw_i ((0 + 1) + 1), .ref 177]) rfl (fun _ => rfl) ?_
            refine pw_ld E (pc' := 46) (st' := [pw_i ((-1)), pw_i ((0 + 1) + 1), .ref 177]) rfl (fun _ => rfl) ?_
            refine pw_ast0 h17I E (c := 161) (pc' := 47) rfl rfl rfl (by decide) rfl (by decide) (by omega) (by omega) rfl (by omega) (by omega) (by omega) (by omega) rfl ?_
            intro h20I h20E
            generalize h20w : pw_w h17 161 ((((0 + 1) + 1) : Int).toNat) (pw_i ((-1))) = h20 at h20I h20E ⊢
            have h20F := h17F.tr (h20E.wk (W' := [125, 127, 128, 129, 146, 147, 157, 158, 159, 160, 161, 1002]) (by first | rfl | simp))
            refine pw_inc E (pc' := 50) (ls' := [some (.ref 141), some (pw_i ix), some (pw_i (((0 + 1) + 1) + 1))]) rfl rfl rfl rfl ?_
            refine pw_goto E (pc' := 35) rfl (by decide) ?_
            refine pw_ld E (pc' := 36) (st' := [pw_i (((0 + 1) + 1) + 1)]) rfl (fun _ => rfl) ?_
            refine pw_ld E (pc' := 37) (st' := [pw_i 4, pw_i (((0 + 1) + 1) + 1)]) rfl (fun _ => rfl) ?_
            refine pw_if2 E (pc' := 53) rfl (by decide) (by decide) (by decide) (by decide) (by decide) ?_ ?_
            · intro hc21
              change (4 : Int) ≤ ((0 + 1) + 1) + 1 at hc21
              exfalso; omega
            · intro hc22
              change ¬ ((4 : Int) ≤ ((0 + 1) + 1) + 1) at hc22
              refine pw_ld E (pc' := 41) (st' := [.ref 141]) rfl (fun _ => rfl) ?_
              refine pw_getR (b := 177) h20I E (c := 125) (k := 50) (pc' := 44) rfl rfl rfl rfl rfl rfl rfl ?_
              refine pw_ld E (pc' := 45) (st' := [pw_i (((0 + 1) + 1) + 1), .ref 177]) rfl (fun _ => rfl) ?_
              refine pw_ld E (pc' := 46) (st' := [pw_i ((-1)), pw_i (((0 + 1) + 1) + 1), .ref 177]) rfl (fun _ => rfl) ?_
              refine pw_ast0 h20I E (c := 161) (pc' := 47) rfl rfl rfl (by decide) rfl (by decide) (by omega) (by omega) rfl (by omega) (by omega) (by omega) (by omega) rfl ?_
              intro h23I h23E
              generalize h23w : pw_w h20 161 (((((0 + 1) + 1) + 1) : Int).toNat) (pw_i ((-1))) = h23 at h23I h23E ⊢
              have h23F := h20F.tr (h23E.wk (W' := [125, 127, 128, 129, 146, 147, 157, 158, 159, 160, 161, 1002]) (by first | rfl | simp))
              refine pw_inc E (pc' := 50) (ls' := [some (.ref 141), some (pw_i ix), some (pw_i ((((0 + 1) + 1) + 1) + 1))]) rfl rfl rfl rfl ?_
              refine pw_goto E (pc' := 35) rfl (by decide) ?_
              refine pw_ld E (pc' := 36) (st' := [pw_i ((((0 + 1) + 1) + 1) + 1)]) rfl (fun _ => rfl) ?_
              refine pw_ld E (pc' := 37) (st' := [pw_i 4, pw_i ((((0 + 1) + 1) + 1) + 1)]) rfl (fun _ => rfl) ?_
              refine pw_if2 E (pc' := 53) rfl (by decide) (by decide) (by decide) (by decide) (by decide) ?_ ?_
              · intro hc24
                change (4 : Int) ≤ (((0 + 1) + 1) + 1) + 1 at hc24
                have b7 : pw_g h23 125 7 = pw_g h8 125 7 := by rw [← h23w, pw_g_ne (by omega), ← h20w, pw_g_ne (by omega), ← h17w, pw_g_ne (by omega), ← h14w, pw_g_ne (by omega), ← h11w, pw_g_ne (by omega), ← h10w, pw_g_ne (by omega)]
                have b8 : pw_g h23 125 8 = pw_g h8 125 8 := by rw [← h23w, pw_g_ne (by omega), ← h20w, pw_g_ne (by omega), ← h17w, pw_g_ne (by omega), ← h14w, pw_g_ne (by omega), ← h11w, pw_g_ne (by omega), ← h10w, pw_g_ne (by omega)]
                have b9 : pw_g h23 125 32 = pw_g h10 125 32 := by rw [← h23w, pw_g_ne (by omega), ← h20w, pw_g_ne (by omega), ← h17w, pw_g_ne (by omega), ← h14w, pw_g_ne (by omega), ← h11w, pw_g_ne (by omega)]
                have bc : pw_g h10 125 32 = 0 := by rw [← h10w]; exact pw_g_eq (c := 125) (k := 32) h8I rfl rfl (by omega) (by omega)
                have hl25 : ∀ j : Nat, pw_g h23 127 j = pw_g h8 127 j := fun j => ((((((by rw [← h23w]; exact pw_g_ne (by omega) : pw_g h23 127 j = pw_g h20 127 j)).trans (by rw [← h20w]; exact pw_g_ne (by omega) : pw_g h20 127 j = pw_g h17 127 j)).trans (by rw [← h17w]; exact pw_g_ne (by omega) : pw_g h17 127 j = pw_g h14 127 j)).trans (by rw [← h14w]; exact pw_g_ne (by omega) : pw_g h14 127 j = pw_g h11 127 j)).trans (by rw [← h11w]; exact pw_g_ne (by omega) : pw_g h11 127 j = pw_g h10 127 j)).trans (by rw [← h10w]; exact pw_g_ne (by omega) : pw_g h10 127 j = pw_g h8 127 j)
                have bA : pw_A n h23 := ⟨hA0.1, by rw [hl25]; exact hA0.2.1, by omega, by omega, by omega, by omega⟩
                have bV : pw_NV n h23 := fun j hj hq => by rw [← h23w, pw_gm_ne (by omega), ← h20w, pw_gm_ne (by omega), ← h17w, pw_gm_ne (by omega), ← h14w, pw_gm_ne (by omega), ← h11w, pw_gm_ne (by omega), ← h10w, pw_gm_ne (by omega)]; exact hV0 j hj (by rw [← hl25]; exact hq)
                have bl0 : pw_g h23 161 0 = -1 := by rw [← h23w, pw_g_ne (by decide), ← h20w, pw_g_ne (by decide), ← h17w, pw_g_ne (by decide), ← h14w]; exact pw_g_eqA h11I rfl (by decide) (by decide) (by decide)
                have bl1 : pw_g h23 161 1 = -1 := by rw [← h23w, pw_g_ne (by decide), ← h20w, pw_g_ne (by decide), ← h17w]; exact pw_g_eqA h14I rfl (by decide) (by decide) (by decide)
                have bl2 : pw_g h23 161 2 = -1 := by rw [← h23w, pw_g_ne (by decide), ← h20w]; exact pw_g_eqA h17I rfl (by decide) (by decide) (by decide)
                have bl3 : pw_g h23 161 3 = -1 := by rw [← h23w]; exact pw_g_eqA h20I rfl (by decide) (by decide) (by decide)
                have bL : pw_Lw h23 := ⟨Or.inl (by omega), by omega, by omega, by omega⟩
                have hl26 : ∀ j : Nat, pw_g h23 145 j = pw_g h 145 j := fun j => ((((((((by rw [← h23w]; exact pw_g_ne (by omega) : pw_g h23 145 j = pw_g h20 145 j)).trans (by rw [← h20w]; exact pw_g_ne (by omega) : pw_g h20 145 j = pw_g h17 145 j)).trans (by rw [← h17w]; exact pw_g_ne (by omega) : pw_g h17 145 j = pw_g h14 145 j)).trans (by rw [← h14w]; exact pw_g_ne (by omega) : pw_g h14 145 j = pw_g h11 145 j)).trans (by rw [← h11w]; exact pw_g_ne (by omega) : pw_g h11 145 j = pw_g h10 145 j)).trans (by rw [← h10w]; exact pw_g_ne (by omega) : pw_g h10 145 j = pw_g h8 145 j)).trans (pw_Eg (c := 145) h1I h8E rfl rfl j : pw_g h8 145 j = pw_g h1 145 j)).trans (by rw [← h1w]; exact pw_g_ne (by omega) : pw_g h1 145 j = pw_g h 145 j)
                have hl27 : ∀ j : Nat, pw_g h23 146 j = pw_g h 146 j := fun j => ((((((((by rw [← h23w]; exact pw_g_ne (by omega) : pw_g h23 146 j = pw_g h20 146 j)).trans (by rw [← h20w]; exact pw_g_ne (by omega) : pw_g h20 146 j = pw_g h17 146 j)).trans (by rw [← h17w]; exact pw_g_ne (by omega) : pw_g h17 146 j = pw_g h14 146 j)).trans (by rw [← h14w]; exact pw_g_ne (by omega) : pw_g h14 146 j = pw_g h11 146 j)).trans (by rw [← h11w]; exact pw_g_ne (by omega) : pw_g h11 146 j = pw_g h10 146 j)).trans (by rw [← h10w]; exact pw_g_ne (by omega) : pw_g h10 146 j = pw_g h8 146 j)).trans (pw_Eg (c := 146) h1I h8E rfl rfl j : pw_g h8 146 j = pw_g h1 146 j)).trans (by rw [← h1w]; exact pw_g_ne (by omega) : pw_g h1 146 j = pw_g h 146 j)
                have hl28 : ∀ j : Nat, pw_g h23 147 j = pw_g h 147 j := fun j => ((((((((by rw [← h23w]; exact pw_g_ne (by omega) : pw_g h23 147 j = pw_g h20 147 j)).trans (by rw [← h20w]; exact pw_g_ne (by omega) : pw_g h20 147 j = pw_g h17 147 j)).trans (by rw [← h17w]; exact pw_g_ne (by omega) : pw_g h17 147 j = pw_g h14 147 j)).trans (by rw [← h14w]; exact pw_g_ne (by omega) : pw_g h14 147 j = pw_g h11 147 j)).trans (by rw [← h11w]; exact pw_g_ne (by omega) : pw_g h11 147 j = pw_g h10 147 j)).trans (by rw [← h10w]; exact pw_g_ne (by omega) : pw_g h10 147 j = pw_g h8 147 j)).trans (pw_Eg (c := 147) h1I h8E rfl rfl j : pw_g h8 147 j = pw_g h1 147 j)).trans (by rw [← h1w]; exact pw_g_ne (by omega) : pw_g h1 147 j = pw_g h 147 j)
                have hl29 : ∀ j : Nat, pw_g h23 157 j = pw_g h 157 j := fun j => ((((((((by rw [← h23w]; exact pw_g_ne (by omega) : pw_g h23 157 j = pw_g h20 157 j)).trans (by rw [← h20w]; exact pw_g_ne (by omega) : pw_g h20 157 j = pw_g h17 157 j)).trans (by rw [← h17w]; exact pw_g_ne (by omega) : pw_g h17 157 j = pw_g h14 157 j)).trans (by rw [← h14w]; exact pw_g_ne (by omega) : pw_g h14 157 j = pw_g h11 157 j)).trans (by rw [← h11w]; exact pw_g_ne (by omega) : pw_g h11 157 j = pw_g h10 157 j)).trans (by rw [← h10w]; exact pw_g_ne (by omega) : pw_g h10 157 j = pw_g h8 157 j)).trans (pw_Eg (c := 157) h1I h8E rfl rfl j : pw_g h8 157 j = pw_g h1 157 j)).trans (by rw [← h1w]; exact pw_g_ne (by omega) : pw_g h1 157 j = pw_g h 157 j)
                have bO : pw_O h h23 := ⟨fun j _ => hl26 j, fun j _ => ⟨hl27 j, hl28 j⟩, hl29⟩
                have bE : pw_E [125, 161] h8 h23 := ((((((h10E.wk (W' := [125, 161]) (by first | rfl | simp)).tr (h11E.wk (W' := [125, 161]) (by first | rfl | simp))).tr (h14E.wk (W' := [125, 161]) (by first | rfl | simp))).tr (h17E.wk (W' := [125, 161]) (by first | rfl | simp))).tr (h20E.wk (W' := [125, 161]) (by first | rfl | simp))).tr (h23E.wk (W' := [125, 161]) (by first | rfl | simp)))
                have b45 : pw_g h23 125 45 = pw_g h11 125 45 := by rw [← h23w, pw_g_ne (by omega), ← h20w, pw_g_ne (by omega), ← h17w, pw_g_ne (by omega), ← h14w, pw_g_ne (by omega)]
                have b45z : pw_g h11 125 45 = 1 := by rw [← h11w]; exact pw_g_eq (c := 125) (k := 45) h10I rfl rfl (by omega) (by omega)
                have bT : pt_TK K V P 1 h23 := by rw [hK, hV, hP]; exact pt_TK.mk h8I bE hWc rfl (b45.trans b45z)
                have b2 : pw_g h23 125 2 = 0 := (pt_e2 bE rfl).trans ht2
                have bR : pt_RW K V P n R h23 := by rw [hR]; exact pt_RW.z (by omega) (by omega) bl0 bl1 bl2 bl3
                have L53 : ∀ (n53 : Nat)  (gh53 : pm_H), pw_I gh53 → pw_E [125, 127, 128, 129, 146, 147, 157, 158, 159, 160, 161, 1002] h gh53 → pw_A n gh53 → pw_g gh53 125 32 ≤ pw_g gh53 125 7 → (pw_g gh53 125 8 = 0 → pw_Lw gh53) → pw_O h gh53 → pw_NV n gh53 → pt_TK K V P 1 gh53 → pt_RW K V P n R gh53 → pw_g gh53 125 2 = 0 → ((n : Int) - pw_g gh53 125 7 + 1 - min (pw_g gh53 125 8) 1).toNat = n53 → pw X d gh53 277 53 [some (.ref 141), some (pw_i ix), some (pw_i ((((0 + 1) + 1) + 1) + 1))] [] (fun h' v => pw_I h' ∧ pw_E [125, 127, 128, 129, 146, 147, 157, 158, 159, 160, 161, 1002] h h' ∧ (pw_K h') ∧ (∃ a : Int, v = .inl (some (pw_i a)) ∧ (-2147483648) ≤ a ∧ a ≤ 2147483647 ∧ (pw_g h' 125 2 = 0 ∧ (¬ (0 ≤ ix ∧ ix ≤ 3) → a = -1) ∧ (0 ≤ ix → ix ≤ 3 → ∃ L : List pt_tok, pt_sg (pw_g h 126) (pw_g h 125 2).toNat 0 L (pw_g h 125 2).toNat ∧ a = (pt_TX 1 L (pw_g h 125 2).toNat).1)))) := by
                  intro n53
                  induction n53 using Nat.strongRecOn with
                  | ind n53 ih53 =>
                    intro  gh53 I53 E53 hx53_0 hx53_1 hx53_2 hx53_3 hx53_4 hx53_5 hx53_6 hx53_7 hm53
                    refine pw_ld E (pc' := 54) (st' := [.ref 141]) rfl (fun _ => rfl) ?_
                    refine pw_getI2 I53 E (c := 125) (k := 8) (pc' := 57) rfl rfl rfl rfl rfl rfl (fun hf30a hf30b => ?_)
                    refine pw_if E (pc' := 79) rfl (by decide) (by omega) (by omega) ?_ ?_
                    · intro hc31
                      change pw_g gh53 125 8 ≠ (0 : Int) at hc31
                      have hA53 : pw_g gh53 125 7 ≤ n ∧ 0 ≤ pw_g gh53 125 8 ∧ 0 ≤ pw_g gh53 125 7 ∧ 0 ≤ pw_g gh53 125 32 := hx53_0.2.2
                      have hn1 : n ≤ 1000 := hx53_0.1
                      refine pw_ld E (pc' := 80) (st' := [.ref 141]) rfl (fun _ => rfl) ?_
                      refine pw_getI2 I53 E (c := 125) (k := 8) (pc' := 83) rfl rfl rfl rfl rfl rfl (fun hf32a hf32b => ?_)
                      refine pw_if E (pc' := 91) rfl (by decide) (by omega) (by omega) ?_ ?_
                      · intro hc33
                        change pw_g gh53 125 8 ≤ (0 : Int) at hc33
                        refine pw_ld E (pc' := 92) (st' := [.ref 141]) rfl (fun _ => rfl) ?_
                        refine pw_ld E (pc' := 93) (st' := [pw_i 5, .ref 141]) rfl (fun _ => rfl) ?_
                        refine pw_ld E (pc' := 94) (st' := [pw_i ix, pw_i 5, .ref 141]) rfl (fun _ => rfl) ?_
                        refine pw_add E (pc' := 95) rfl rfl ?_
                        obtain ⟨f34l, f34h, -⟩ := pw_obj (c := 125) I53 rfl
                        refine pw_call (m' := 258) (As := [.ref 141, pw_i (5 + ix)]) (rest := []) (ls'' := [some (.ref 141), some (pw_i (5 + ix)), none]) (Nat.le_trans (by decide) hd) E rfl (fun _ => pw_iV rfl rfl rfl rfl (pw_cellI f34h rfl)) (rfl : pm_ent 258 = some (2, 3, 12, 4, pmc_258)) rfl rfl (cm_258 (pw_dp hd (by decide)) I53 (5 + ix) (by omega) (by omega) (by omega) (by omega)) ?_
                        rintro h35 v36 ⟨h35I, h35E, hqkeep, rfl⟩
                        refine ⟨_, rfl, ?_⟩
                        have h35F := E53.tr (h35E.wk (W' := [125, 127, 128, 129, 146, 147, 157, 158, 159, 160, 161, 1002]) (by first | rfl | simp))
                        show pw X d h35 277 98 [some (.ref 141), some (pw_i ix), some (pw_i ((((0 + 1) + 1) + 1) + 1))] [] _
                        refine pw_ld E (pc' := 99) (st' := [.ref 141]) rfl (fun _ => rfl) ?_
                        refine pw_getR (b := 173) h35I E (c := 125) (k := 46) (pc' := 102) rfl rfl rfl rfl rfl rfl rfl ?_
                        refine pw_ld E (pc' := 103) (st' := [pw_i ix, .ref 173]) rfl (fun _ => rfl) ?_
                        refine pw_ld E (pc' := 104) (st' := [.ref 141, pw_i ix, .ref 173]) rfl (fun _ => rfl) ?_
                        refine pw_getR (b := 177) h35I E (c := 125) (k := 50) (pc' := 107) rfl rfl rfl rfl rfl rfl rfl ?_
                        refine pw_ld E (pc' := 108) (st' := [pw_i 0, .ref 177, pw_i ix, .ref 173]) rfl (fun _ => rfl) ?_
                        refine pw_ald2 h35I E (c := 161) (pc' := 109) rfl rfl rfl (by decide) rfl (by decide) (by omega) (by omega) rfl (fun hf37a hf37b => ?_)
                        refine pw_ast0 h35I E (c := 157) (pc' := 110) rfl rfl rfl (by decide) rfl (by decide) (by omega) (by omega) rfl (by omega) (by omega) (by omega) (by omega) rfl ?_
                        intro h38I h38E
                        generalize h38w : pw_w h35 157 (ix.toNat) (pw_i (pw_g h35 161 (Int.toNat 0))) = h38 at h38I h38E ⊢
                        have h38F := h35F.tr (h38E.wk (W' := [125, 127, 128, 129, 146, 147, 157, 158, 159, 160, 161, 1002]) (by first | rfl | simp))
                        have hl39 : ∀ j : Nat, pw_g h38 161 j = pw_g gh53 161 j := fun j => ((by rw [← h38w]; exact pw_g_ne (by omega) : pw_g h38 161 j = pw_g h35 161 j)).trans (pw_Eg (c := 161) I53 h35E rfl rfl j : pw_g h35 161 j = pw_g gh53 161 j)
                        have hr40 : pw_g h38 161 (Int.toNat 1) ≤ 11 := by rw [hl39]; exact (hx53_2 (by omega)).2.1
                        refine pw_ld E (pc' := 111) (st' := [.ref 141]) rfl (fun _ => rfl) ?_
                        refine pw_getR (b := 174) h38I E (c := 125) (k := 47) (pc' := 114) rfl rfl rfl rfl rfl rfl rfl ?_
                        refine pw_ld E (pc' := 115) (st' := [pw_i ix, .ref 174]) rfl (fun _ => rfl) ?_
                        refine pw_ld E (pc' := 116) (st' := [.ref 141, pw_i ix, .ref 174]) rfl (fun _ => rfl) ?_
                        refine pw_getR (b := 177) h38I E (c := 125) (k := 50) (pc' := 119) rfl rfl rfl rfl rfl rfl rfl ?_
                        refine pw_ld E (pc' := 120) (st' := [pw_i 1, .ref 177, pw_i ix, .ref 174]) rfl (fun _ => rfl) ?_
                        refine pw_ald2 h38I E (c := 161) (pc' := 121) rfl rfl rfl (by decide) rfl (by decide) (by omega) (by omega) rfl (fun hf41a hf41b => ?_)
                        refine pw_if E (pc' := 128) rfl (by decide) (by omega) (by omega) ?_ ?_
                        · intro hc42
                          change (0 : Int) ≤ pw_g h38 161 (Int.toNat 1) at hc42
                          refine pw_ld E (pc' := 129) (st' := [.ref 141, pw_i ix, .ref 174]) rfl (fun _ => rfl) ?_
                          refine pw_getR (b := 177) h38I E (c := 125) (k := 50) (pc' := 132) rfl rfl rfl rfl rfl rfl rfl ?_
                          refine pw_ld E (pc' := 133) (st' := [pw_i 1, .ref 177, pw_i ix, .ref 174]) rfl (fun _ => rfl) ?_
                          refine pw_ald2 h38I E (c := 161) (pc' := 134) rfl rfl rfl (by decide) rfl (by decide) (by omega) (by omega) rfl (fun hf43a hf43b => ?_)
                          refine pw_ast0 h38I E (c := 158) (pc' := 135) rfl rfl rfl (by decide) rfl (by decide) (by omega) (by omega) rfl (by omega) (by omega) (by omega) (by omega) rfl ?_
                          intro h44I h44E
                          generalize h44w : pw_w h38 158 (ix.toNat) (pw_i (pw_g h38 161 (Int.toNat 1))) = h44 at h44I h44E ⊢
                          have h44F := h38F.tr (h44E.wk (W' := [125, 127, 128, 129, 146, 147, 157, 158, 159, 160, 161, 1002]) (by first | rfl | simp))
                          have hl45 : ∀ j : Nat, pw_g h44 161 j = pw_g gh53 161 j := fun j => (((by rw [← h44w]; exact pw_g_ne (by omega) : pw_g h44 161 j = pw_g h38 161 j)).trans (by rw [← h38w]; exact pw_g_ne (by omega) : pw_g h38 161 j = pw_g h35 161 j)).trans (pw_Eg (c := 161) I53 h35E rfl rfl j : pw_g h35 161 j = pw_g gh53 161 j)
                          have hr46 : pw_g h44 161 (Int.toNat 2) ≤ 11 := by rw [hl45]; exact (hx53_2 (by omega)).2.2.1
                          refine pw_ld E (pc' := 136) (st' := [.ref 141]) rfl (fun _ => rfl) ?_
                          refine pw_getR (b := 175) h44I E (c := 125) (k := 48) (pc' := 139) rfl rfl rfl rfl rfl rfl rfl ?_
                          refine pw_ld E (pc' := 140) (st' := [pw_i ix, .ref 175]) rfl (fun _ => rfl) ?_
                          refine pw_ld E (pc' := 141) (st' := [.ref 141, pw_i ix, .ref 175]) rfl (fun _ => rfl) ?_
                          refine pw_getR (b := 177) h44I E (c := 125) (k := 50) (pc' := 144) rfl rfl rfl rfl rfl rfl rfl ?_
                          refine pw_ld E (pc' := 145) (st' := [pw_i 2, .ref 177, pw_i ix, .ref 175]) rfl (fun _ => rfl) ?_
                          refine pw_ald2 h44I E (c := 161) (pc' := 146) rfl rfl rfl (by decide) rfl (by decide) (by omega) (by omega) rfl (fun hf47a hf47b => ?_)
                          refine pw_if E (pc' := 154) rfl (by decide) (by omega) (by omega) ?_ ?_
                          · intro hc48
                            change (0 : Int) ≤ pw_g h44 161 (Int.toNat 2) at hc48
                            refine pw_ld E (pc' := 155) (st' := [.ref 141, pw_i ix, .ref 175]) rfl (fun _ => rfl) ?_
                            refine pw_getR (b := 177) h44I E (c := 125) (k := 50) (pc' := 158) rfl rfl rfl rfl rfl rfl rfl ?_
                            refine pw_ld E (pc' := 159) (st' := [pw_i 2, .ref 177, pw_i ix, .ref 175]) rfl (fun _ => rfl) ?_
                            refine pw_ald2 h44I E (c := 161) (pc' := 160) rfl rfl rfl (by decide) rfl (by decide) (by omega) (by omega) rfl (fun hf49a hf49b => ?_)
                            refine pw_ast0 h44I E (c := 159) (pc' := 161) rfl rfl rfl (by decide) rfl (by decide) (by omega) (by omega) rfl (by omega) (by omega) (by omega) (by omega) rfl ?_
                            intro h50I h50E
                            generalize h50w : pw_w h44 159 (ix.toNat) (pw_i (pw_g h44 161 (Int.toNat 2))) = h50 at h50I h50E ⊢
                            have h50F := h44F.tr (h50E.wk (W' := [125, 127, 128, 129, 146, 147, 157, 158, 159, 160, 161, 1002]) (by first | rfl | simp))
                            have hl51 : ∀ j : Nat, pw_g h50 161 j = pw_g gh53 161 j := fun j => ((((by rw [← h50w]; exact pw_g_ne (by omega) : pw_g h50 161 j = pw_g h44 161 j)).trans (by rw [← h44w]; exact pw_g_ne (by omega) : pw_g h44 161 j = pw_g h38 161 j)).trans (by rw [← h38w]; exact pw_g_ne (by omega) : pw_g h38 161 j = pw_g h35 161 j)).trans (pw_Eg (c := 161) I53 h35E rfl rfl j : pw_g h35 161 j = pw_g gh53 161 j)
                            have hr52 : pw_g h50 161 (Int.toNat 3) ≤ 10 := by rw [hl51]; exact (hx53_2 (by omega)).2.2.2
                            refine pw_ld E (pc' := 162) (st' := [.ref 141]) rfl (fun _ => rfl) ?_
                            refine pw_getR (b := 176) h50I E (c := 125) (k := 49) (pc' := 165) rfl rfl rfl rfl rfl rfl rfl ?_
                            refine pw_ld E (pc' := 166) (st' := [pw_i ix, .ref 176]) rfl (fun _ => rfl) ?_
                            refine pw_ld E (pc' := 167) (st' := [.ref 141, pw_i ix, .ref 176]) rfl (fun _ => rfl) ?_
                            refine pw_getR (b := 177) h50I E (c := 125) (k := 50) (pc' := 170) rfl rfl rfl rfl rfl rfl rfl ?_
                            refine pw_ld E (pc' := 171) (st' := [pw_i 3, .ref 177, pw_i ix, .ref 176]) rfl (fun _ => rfl) ?_
                            refine pw_ald2 h50I E (c := 161) (pc' := 172) rfl rfl rfl (by decide) rfl (by decide) (by omega) (by omega) rfl (fun hf53a hf53b => ?_)
                            refine pw_ast0 h50I E (c := 160) (pc' := 173) rfl rfl rfl (by decide) rfl (by decide) (by omega) (by omega) rfl (by omega) (by omega) (by omega) (by omega) rfl ?_
                            intro h54I h54E
                            generalize h54w : pw_w h50 160 (ix.toNat) (pw_i (pw_g h50 161 (Int.toNat 3))) = h54 at h54I h54E ⊢
                            have h54F := h50F.tr (h54E.wk (W' := [125, 127, 128, 129, 146, 147, 157, 158, 159, 160, 161, 1002]) (by first | rfl | simp))
                            refine pw_ld E (pc' := 174) (st' := [pw_i 0]) rfl (fun _ => rfl) ?_
                            refine pw_iret E rfl ?_
                            have hl55 : ∀ j : Nat, pw_g h35 161 j = pw_g gh53 161 j := fun j => (pw_Eg (c := 161) I53 h35E rfl rfl j : pw_g h35 161 j = pw_g gh53 161 j)
                            have hl56 : ∀ j : Nat, pw_g h54 145 j = pw_g gh53 145 j := fun j => (((((by rw [← h54w]; exact pw_g_ne (by omega) : pw_g h54 145 j = pw_g h50 145 j)).trans (by rw [← h50w]; exact pw_g_ne (by omega) : pw_g h50 145 j = pw_g h44 145 j)).trans (by rw [← h44w]; exact pw_g_ne (by omega) : pw_g h44 145 j = pw_g h38 145 j)).trans (by rw [← h38w]; exact pw_g_ne (by omega) : pw_g h38 145 j = pw_g h35 145 j)).trans (pw_Eg (c := 145) I53 h35E rfl rfl j : pw_g h35 145 j = pw_g gh53 145 j)
                            have hl57 : ∀ j : Nat, pw_g h54 146 j = pw_g h35 146 j := fun j => ((((by rw [← h54w]; exact pw_g_ne (by omega) : pw_g h54 146 j = pw_g h50 146 j)).trans (by rw [← h50w]; exact pw_g_ne (by omega) : pw_g h50 146 j = pw_g h44 146 j)).trans (by rw [← h44w]; exact pw_g_ne (by omega) : pw_g h44 146 j = pw_g h38 146 j)).trans (by rw [← h38w]; exact pw_g_ne (by omega) : pw_g h38 146 j = pw_g h35 146 j)
                            have hl58 : ∀ j : Nat, pw_g h54 147 j = pw_g h35 147 j := fun j => ((((by rw [← h54w]; exact pw_g_ne (by omega) : pw_g h54 147 j = pw_g h50 147 j)).trans (by rw [← h50w]; exact pw_g_ne (by omega) : pw_g h50 147 j = pw_g h44 147 j)).trans (by rw [← h44w]; exact pw_g_ne (by omega) : pw_g h44 147 j = pw_g h38 147 j)).trans (by rw [← h38w]; exact pw_g_ne (by omega) : pw_g h38 147 j = pw_g h35 147 j)
                            have hl59 : ∀ j : Nat, pw_g h54 157 j = pw_g h38 157 j := fun j => (((by rw [← h54w]; exact pw_g_ne (by omega) : pw_g h54 157 j = pw_g h50 157 j)).trans (by rw [← h50w]; exact pw_g_ne (by omega) : pw_g h50 157 j = pw_g h44 157 j)).trans (by rw [← h44w]; exact pw_g_ne (by omega) : pw_g h44 157 j = pw_g h38 157 j)
                            have hl60 : ∀ j : Nat, pw_g h35 157 j = pw_g gh53 157 j := fun j => (pw_Eg (c := 157) I53 h35E rfl rfl j : pw_g h35 157 j = pw_g gh53 157 j)
                            have hw0 : pw_g h38 157 (ix.toNat) = pw_g h35 161 (Int.toNat 0) := by rw [← h38w]; exact pw_g_eqA h35I rfl (by omega) (by omega) (by omega)
                            have hw1 : ∀ j : Nat, j ≠ ix.toNat → pw_g h38 157 j = pw_g h35 157 j := fun j hj => by rw [← h38w]; exact pw_g_ne (fun q => hj q.2.symm)
                            have hkc : pw_KC gh53 h54 (5 + ix) (pw_g gh53 125 32) := ⟨fun j hj => ⟨(hl57 _).trans (hqkeep.1 j hj).1, (hl58 _).trans (hqkeep.1 j hj).2⟩, fun j hj => ⟨(hl57 _).trans (hqkeep.2 j hj).1, (hl58 _).trans (hqkeep.2 j hj).2⟩⟩
                            have cE : pw_E [146, 147, 157, 158, 159, 160] gh53 h54 := (((((h35E.wk (W' := [146, 147, 157, 158, 159, 160]) (by first | rfl | simp)).tr (h38E.wk (W' := [146, 147, 157, 158, 159, 160]) (by first | rfl | simp))).tr (h44E.wk (W' := [146, 147, 157, 158, 159, 160]) (by first | rfl | simp))).tr (h50E.wk (W' := [146, 147, 157, 158, 159, 160]) (by first | rfl | simp))).tr (h54E.wk (W' := [146, 147, 157, 158, 159, 160]) (by first | rfl | simp)))
                            have hk0 : K (pw_g gh53 125 7).toNat = 0 := by rw [← hx53_5.1]; first | assumption | omega
                            obtain ⟨-, th, C, N, hTI, hMW⟩ := hx53_6.resolve_right (fun q => by have := q.1; omega)
                            have hRe := hTI.en (by omega) hk0
                            rw [hRX] at hRe
                            exact ⟨h54I, h54F, (hp0.of hx53_3.1 hx53_3.2.1 hx53_3.2.2).wri (L := pw_g gh53 161 0) (by omega) (by omega) (hx53_2 (by omega)).1 (by omega) ((hl59 _).trans (hw0.trans (hl55 0))) (fun j hj => (hl59 j).trans ((hw1 j hj).trans (hl60 j))) hkc hl56, ⟨_, rfl, by omega, by omega, ⟨(pt_e2 cE rfl).trans hx53_7, fun q => absurd ⟨by omega, by omega⟩ q, fun _ _ => ⟨L, hsg, by rw [hRe]⟩⟩⟩⟩
                          · intro hc61
                            change ¬ ((0 : Int) ≤ pw_g h44 161 (Int.toNat 2)) at hc61
                            refine pw_bip E (pc' := 151) rfl rfl (by decide) ?_
                            refine pw_goto E (pc' := 160) rfl (by decide) ?_
                            refine pw_ast0 h44I E (c := 159) (pc' := 161) rfl rfl rfl (by decide) rfl (by decide) (by omega) (by omega) rfl (by omega) (by omega) (by omega) (by omega) rfl ?_
                            intro h62I h62E
                            generalize h62w : pw_w h44 159 (ix.toNat) (pw_i 11) = h62 at h62I h62E ⊢
                            have h62F := h44F.tr (h62E.wk (W' := [125, 127, 128, 129, 146, 147, 157, 158, 159, 160, 161, 1002]) (by first | rfl | simp))
                            have hl63 : ∀ j : Nat, pw_g h62 161 j = pw_g gh53 161 j := fun j => ((((by rw [← h62w]; exact pw_g_ne (by omega) : pw_g h62 161 j = pw_g h44 161 j)).trans (by rw [← h44w]; exact pw_g_ne (by omega) : pw_g h44 161 j = pw_g h38 161 j)).trans (by rw [← h38w]; exact pw_g_ne (by omega) : pw_g h38 161 j = pw_g h35 161 j)).trans (pw_Eg (c := 161) I53 h35E rfl rfl j : pw_g h35 161 j = pw_g gh53 161 j)
                            have hr64 : pw_g h62 161 (Int.toNat 3) ≤ 10 := by rw [hl63]; exact (hx53_2 (by omega)).2.2.2
                            refine pw_ld E (pc' := 162) (st' := [.ref 141]) rfl (fun _ => rfl) ?_
                            refine pw_getR (b := 176) h62I E (c := 125) (k := 49) (pc' := 165) rfl rfl rfl rfl rfl rfl rfl ?_
                            refine pw_ld E (pc' := 166) (st' := [pw_i ix, .ref 176]) rfl (fun _ => rfl) ?_
                            refine pw_ld E (pc' := 167) (st' := [.ref 141, pw_i ix, .ref 176]) rfl (fun _ => rfl) ?_
                            refine pw_getR (b := 177) h62I E (c := 125) (k := 50) (pc' := 170) rfl rfl rfl rfl rfl rfl rfl ?_
                            refine pw_ld E (pc' := 171) (st' := [pw_i 3, .ref 177, pw_i ix, .ref 176]) rfl (fun _ => rfl) ?_
                            refine pw_ald2 h62I E (c := 161) (pc' := 172) rfl rfl rfl (by decide) rfl (by decide) (by omega) (by omega) rfl (fun hf65a hf65b => ?_)
                            refine pw_ast0 h62I E (c := 160) (pc' := 173) rfl rfl rfl (by decide) rfl (by decide) (by omega) (by omega) rfl (by omega) (by omega) (by omega) (by omega) rfl ?_
                            intro h66I h66E
                            generalize h66w : pw_w h62 160 (ix.toNat) (pw_i (pw_g h62 161 (Int.toNat 3))) = h66 at h66I h66E ⊢
                            have h66F := h62F.tr (h66E.wk (W' := [125, 127, 128, 129, 146, 147, 157, 158, 159, 160, 161, 1002]) (by first | rfl | simp))
                            refine pw_ld E (pc' := 174) (st' := [pw_i 0]) rfl (fun _ => rfl) ?_
                            refine pw_iret E rfl ?_
                            have hl67 : ∀ j : Nat, pw_g h35 161 j = pw_g gh53 161 j := fun j => (pw_Eg (c := 161) I53 h35E rfl rfl j : pw_g h35 161 j = pw_g gh53 161 j)
                            have hl68 : ∀ j : Nat, pw_g h66 145 j = pw_g gh53 145 j := fun j => (((((by rw [← h66w]; exact pw_g_ne (by omega) : pw_g h66 145 j = pw_g h62 145 j)).trans (by rw [← h62w]; exact pw_g_ne (by omega) : pw_g h62 145 j = pw_g h44 145 j)).trans (by rw [← h44w]; exact pw_g_ne (by omega) : pw_g h44 145 j = pw_g h38 145 j)).trans (by rw [← h38w]; exact pw_g_ne (by omega) : pw_g h38 145 j = pw_g h35 145 j)).trans (pw_Eg (c := 145) I53 h35E rfl rfl j : pw_g h35 145 j = pw_g gh53 145 j)
                            have hl69 : ∀ j : Nat, pw_g h66 146 j = pw_g h35 146 j := fun j => ((((by rw [← h66w]; exact pw_g_ne (by omega) : pw_g h66 146 j = pw_g h62 146 j)).trans (by rw [← h62w]; exact pw_g_ne (by omega) : pw_g h62 146 j = pw_g h44 146 j)).trans (by rw [← h44w]; exact pw_g_ne (by omega) : pw_g h44 146 j = pw_g h38 146 j)).trans (by rw [← h38w]; exact pw_g_ne (by omega) : pw_g h38 146 j = pw_g h35 146 j)
                            have hl70 : ∀ j : Nat, pw_g h66 147 j = pw_g h35 147 j := fun j => ((((by rw [← h66w]; exact pw_g_ne (by omega) : pw_g h66 147 j = pw_g h62 147 j)).trans (by rw [← h62w]; exact pw_g_ne (by omega) : pw_g h62 147 j = pw_g h44 147 j)).trans (by rw [← h44w]; exact pw_g_ne (by omega) : pw_g h44 147 j = pw_g h38 147 j)).trans (by rw [← h38w]; exact pw_g_ne (by omega) : pw_g h38 147 j = pw_g h35 147 j)
                            have hl71 : ∀ j : Nat, pw_g h66 157 j = pw_g h38 157 j := fun j => (((by rw [← h66w]; exact pw_g_ne (by omega) : pw_g h66 157 j = pw_g h62 157 j)).trans (by rw [← h62w]; exact pw_g_ne (by omega) : pw_g h62 157 j = pw_g h44 157 j)).trans (by rw [← h44w]; exact pw_g_ne (by omega) : pw_g h44 157 j = pw_g h38 157 j)
                            have hl72 : ∀ j : Nat, pw_g h35 157 j = pw_g gh53 157 j := fun j => (pw_Eg (c := 157) I53 h35E rfl rfl j : pw_g h35 157 j = pw_g gh53 157 j)
                            have hw0 : pw_g h38 157 (ix.toNat) = pw_g h35 161 (Int.toNat 0) := by rw [← h38w]; exact pw_g_eqA h35I rfl (by omega) (by omega) (by omega)
                            have hw1 : ∀ j : Nat, j ≠ ix.toNat → pw_g h38 157 j = pw_g h35 157 j := fun j hj => by rw [← h38w]; exact pw_g_ne (fun q => hj q.2.symm)
                            have hkc : pw_KC gh53 h66 (5 + ix) (pw_g gh53 125 32) := ⟨fun j hj => ⟨(hl69 _).trans (hqkeep.1 j hj).1, (hl70 _).trans (hqkeep.1 j hj).2⟩, fun j hj => ⟨(hl69 _).trans (hqkeep.2 j hj).1, (hl70 _).trans (hqkeep.2 j hj).2⟩⟩
                            have cE : pw_E [146, 147, 157, 158, 159, 160] gh53 h66 := (((((h35E.wk (W' := [146, 147, 157, 158, 159, 160]) (by first | rfl | simp)).tr (h38E.wk (W' := [146, 147, 157, 158, 159, 160]) (by first | rfl | simp))).tr (h44E.wk (W' := [146, 147, 157, 158, 159, 160]) (by first | rfl | simp))).tr (h62E.wk (W' := [146, 147, 157, 158, 159, 160]) (by first | rfl | simp))).tr (h66E.wk (W' := [146, 147, 157, 158, 159, 160]) (by first | rfl | simp)))
                            have hk0 : K (pw_g gh53 125 7).toNat = 0 := by rw [← hx53_5.1]; first | assumption | omega
                            obtain ⟨-, th, C, N, hTI, hMW⟩ := hx53_6.resolve_right (fun q => by have := q.1; omega)
                            have hRe := hTI.en (by omega) hk0
                            rw [hRX] at hRe
                            exact ⟨h66I, h66F, (hp0.of hx53_3.1 hx53_3.2.1 hx53_3.2.2).wri (L := pw_g gh53 161 0) (by omega) (by omega) (hx53_2 (by omega)).1 (by omega) ((hl71 _).trans (hw0.trans (hl67 0))) (fun j hj => (hl71 j).trans ((hw1 j hj).trans (hl72 j))) hkc hl68, ⟨_, rfl, by omega, by omega, ⟨(pt_e2 cE rfl).trans hx53_7, fun q => absurd ⟨by omega, by omega⟩ q, fun _ _ => ⟨L, hsg, by rw [hRe]⟩⟩⟩⟩
                        · intro hc73
                          change ¬ ((0 : Int) ≤ pw_g h38 161 (Int.toNat 1)) at hc73
                          refine pw_ld E (pc' := 125) (st' := [pw_i 0, pw_i ix, .ref 174]) rfl (fun _ => rfl) ?_
                          refine pw_goto E (pc' := 134) rfl (by decide) ?_
                          refine pw_ast0 h38I E (c := 158) (pc' := 135) rfl rfl rfl (by decide) rfl (by decide) (by omega) (by omega) rfl (by omega) (by omega) (by omega) (by omega) rfl ?_
                          intro h74I h74E
                          generalize h74w : pw_w h38 158 (ix.toNat) (pw_i 0) = h74 at h74I h74E ⊢
                          have h74F := h38F.tr (h74E.wk (W' := [125, 127, 128, 129, 146, 147, 157, 158, 159, 160, 161, 1002]) (by first | rfl | simp))
                          have hl75 : ∀ j : Nat, pw_g h74 161 j = pw_g gh53 161 j := fun j => (((by rw [← h74w]; exact pw_g_ne (by omega) : pw_g h74 161 j = pw_g h38 161 j)).trans (by rw [← h38w]; exact pw_g_ne (by omega) : pw_g h38 161 j = pw_g h35 161 j)).trans (pw_Eg (c := 161) I53 h35E rfl rfl j : pw_g h35 161 j = pw_g gh53 161 j)
                          have hr76 : pw_g h74 161 (Int.toNat 2) ≤ 11 := by rw [hl75]; exact (hx53_2 (by omega)).2.2.1
                          refine pw_ld E (pc' := 136) (st' := [.ref 141]) rfl (fun _ => rfl) ?_
                          refine pw_getR (b := 175) h74I E (c := 125) (k := 48) (pc' := 139) rfl rfl rfl rfl rfl rfl rfl ?_
                          refine pw_ld E (pc' := 140) (st' := [pw_i ix, .ref 175]) rfl (fun _ => rfl) ?_
                          refine pw_ld E (pc' := 141) (st' := [.ref 141, pw_i ix, .ref 175]) rfl (fun _ => rfl) ?_
                          refine pw_getR (b := 177) h74I E (c := 125) (k := 50) (pc' := 144) rfl rfl rfl rfl rfl rfl rfl ?_
                          refine pw_ld E (pc' := 145) (st' := [pw_i 2, .ref 177, pw_i ix, .ref 175]) rfl (fun _ => rfl) ?_
                          refine pw_ald2 h74I E (c := 161) (pc' := 146) rfl rfl rfl (by decide) rfl (by decide) (by omega) (by omega) rfl (fun hf77a hf77b => ?_)
                          refine pw_if E (pc' := 154) rfl (by decide) (by omega) (by omega) ?_ ?_
                          · intro hc78
                            change (0 : Int) ≤ pw_g h74 161 (Int.toNat 2) at hc78
                            refine pw_ld E (pc' := 155) (st' := [.ref 141, pw_i ix, .ref 175]) rfl (fun _ => rfl) ?_
                            refine pw_getR (b := 177) h74I E (c := 125) (k := 50) (pc' := 158) rfl rfl rfl rfl rfl rfl rfl ?_
                            refine pw_ld E (pc' := 159) (st' := [pw_i 2, .ref 177, pw_i ix, .ref 175]) rfl (fun _ => rfl) ?_
                            refine pw_ald2 h74I E (c := 161) (pc' := 160) rfl rfl rfl (by decide) rfl (by decide) (by omega) (by omega) rfl (fun hf79a hf79b => ?_)
                            refine pw_ast0 h74I E (c := 159) (pc' := 161) rfl rfl rfl (by decide) rfl (by decide) (by omega) (by omega) rfl (by omega) (by omega) (by omega) (by omega) rfl ?_
                            intro h80I h80E
                            generalize h80w : pw_w h74 159 (ix.toNat) (pw_i (pw_g h74 161 (Int.toNat 2))) = h80 at h80I h80E ⊢
                            have h80F := h74F.tr (h80E.wk (W' := [125, 127, 128, 129, 146, 147, 157, 158, 159, 160, 161, 1002]) (by first | rfl | simp))
                            have hl81 : ∀ j : Nat, pw_g h80 161 j = pw_g gh53 161 j := fun j => ((((by rw [← h80w]; exact pw_g_ne (by omega) : pw_g h80 161 j = pw_g h74 161 j)).trans (by rw [← h74w]; exact pw_g_ne (by omega) : pw_g h74 161 j = pw_g h38 161 j)).trans (by rw [← h38w]; exact pw_g_ne (by omega) : pw_g h38 161 j = pw_g h35 161 j)).trans (pw_Eg (c := 161) I53 h35E rfl rfl j : pw_g h35 161 j = pw_g gh53 161 j)
                            have hr82 : pw_g h80 161 (Int.toNat 3) ≤ 10 := by rw [hl81]; exact (hx53_2 (by omega)).2.2.2
                            refine pw_ld E (pc' := 162) (st' := [.ref 141]) rfl (fun _ => rfl) ?_
                            refine pw_getR (b := 176) h80I E (c := 125) (k := 49) (pc' := 165) rfl rfl rfl rfl rfl rfl rfl ?_
                            refine pw_ld E (pc' := 166) (st' := [pw_i ix, .ref 176]) rfl (fun _ => rfl) ?_
                            refine pw_ld E (pc' := 167) (st' := [.ref 141, pw_i ix, .ref 176]) rfl (fun _ => rfl) ?_
                            refine pw_getR (b := 177) h80I E (c := 125) (k := 50) (pc' := 170) rfl rfl rfl rfl rfl rfl rfl ?_
                            refine pw_ld E (pc' := 171) (st' := [pw_i 3, .ref 177, pw_i ix, .ref 176]) rfl (fun _ => rfl) ?_
                            refine pw_ald2 h80I E (c := 161) (pc' := 172) rfl rfl rfl (by decide) rfl (by decide) (by omega) (by omega) rfl (fun hf83a hf83b => ?_)
                            refine pw_ast0 h80I E (c := 160) (pc' := 173) rfl rfl rfl (by decide) rfl (by decide) (by omega) (by omega) rfl (by omega) (by omega) (by omega) (by omega) rfl ?_
                            intro h84I h84E
                            generalize h84w : pw_w h80 160 (ix.toNat) (pw_i (pw_g h80 161 (Int.toNat 3))) = h84 at h84I h84E ⊢
                            have h84F := h80F.tr (h84E.wk (W' := [125, 127, 128, 129, 146, 147, 157, 158, 159, 160, 161, 1002]) (by first | rfl | simp))
                            refine pw_ld E (pc' := 174) (st' := [pw_i 0]) rfl (fun _ => rfl) ?_
                            refine pw_iret E rfl ?_
                            have hl85 : ∀ j : Nat, pw_g h35 161 j = pw_g gh53 161 j := fun j => (pw_Eg (c := 161) I53 h35E rfl rfl j : pw_g h35 161 j = pw_g gh53 161 j)
                            have hl86 : ∀ j : Nat, pw_g h84 145 j = pw_g gh53 145 j := fun j => (((((by rw [← h84w]; exact pw_g_ne (by omega) : pw_g h84 145 j = pw_g h80 145 j)).trans (by rw [← h80w]; exact pw_g_ne (by omega) : pw_g h80 145 j = pw_g h74 145 j)).trans (by rw [← h74w]; exact pw_g_ne (by omega) : pw_g h74 145 j = pw_g h38 145 j)).trans (by rw [← h38w]; exact pw_g_ne (by omega) : pw_g h38 145 j = pw_g h35 145 j)).trans (pw_Eg (c := 145) I53 h35E rfl rfl j : pw_g h35 145 j = pw_g gh53 145 j)
                            have hl87 : ∀ j : Nat, pw_g h84 146 j = pw_g h35 146 j := fun j => ((((by rw [← h84w]; exact pw_g_ne (by omega) : pw_g h84 146 j = pw_g h80 146 j)).trans (by rw [← h80w]; exact pw_g_ne (by omega) : pw_g h80 146 j = pw_g h74 146 j)).trans (by rw [← h74w]; exact pw_g_ne (by omega) : pw_g h74 146 j = pw_g h38 146 j)).trans (by rw [← h38w]; exact pw_g_ne (by omega) : pw_g h38 146 j = pw_g h35 146 j)
                            have hl88 : ∀ j : Nat, pw_g h84 147 j = pw_g h35 147 j := fun j => ((((by rw [← h84w]; exact pw_g_ne (by omega) : pw_g h84 147 j = pw_g h80 147 j)).trans (by rw [← h80w]; exact pw_g_ne (by omega) : pw_g h80 147 j = pw_g h74 147 j)).trans (by rw [← h74w]; exact pw_g_ne (by omega) : pw_g h74 147 j = pw_g h38 147 j)).trans (by rw [← h38w]; exact pw_g_ne (by omega) : pw_g h38 147 j = pw_g h35 147 j)
                            have hl89 : ∀ j : Nat, pw_g h84 157 j = pw_g h38 157 j := fun j => (((by rw [← h84w]; exact pw_g_ne (by omega) : pw_g h84 157 j = pw_g h80 157 j)).trans (by rw [← h80w]; exact pw_g_ne (by omega) : pw_g h80 157 j = pw_g h74 157 j)).trans (by rw [← h74w]; exact pw_g_ne (by omega) : pw_g h74 157 j = pw_g h38 157 j)
                            have hl90 : ∀ j : Nat, pw_g h35 157 j = pw_g gh53 157 j := fun j => (pw_Eg (c := 157) I53 h35E rfl rfl j : pw_g h35 157 j = pw_g gh53 157 j)
                            have hw0 : pw_g h38 157 (ix.toNat) = pw_g h35 161 (Int.toNat 0) := by rw [← h38w]; exact pw_g_eqA h35I rfl (by omega) (by omega) (by omega)
                            have hw1 : ∀ j : Nat, j ≠ ix.toNat → pw_g h38 157 j = pw_g h35 157 j := fun j hj => by rw [← h38w]; exact pw_g_ne (fun q => hj q.2.symm)
                            have hkc : pw_KC gh53 h84 (5 + ix) (pw_g gh53 125 32) := ⟨fun j hj => ⟨(hl87 _).trans (hqkeep.1 j hj).1, (hl88 _).trans (hqkeep.1 j hj).2⟩, fun j hj => ⟨(hl87 _).trans (hqkeep.2 j hj).1, (hl88 _).trans (hqkeep.2 j hj).2⟩⟩
                            have cE : pw_E [146, 147, 157, 158, 159, 160] gh53 h84 := (((((h35E.wk (W' := [146, 147, 157, 158, 159, 160]) (by first | rfl | simp)).tr (h38E.wk (W' := [146, 147, 157, 158, 159, 160]) (by first | rfl | simp))).tr (h74E.wk (W' := [146, 147, 157, 158, 159, 160]) (by first | rfl | simp))).tr (h80E.wk (W' := [146, 147, 157, 158, 159, 160]) (by first | rfl | simp))).tr (h84E.wk (W' := [146, 147, 157, 158, 159, 160]) (by first | rfl | simp)))
                            have hk0 : K (pw_g gh53 125 7).toNat = 0 := by rw [← hx53_5.1]; first | assumption | omega
                            obtain ⟨-, th, C, N, hTI, hMW⟩ := hx53_6.resolve_right (fun q => by have := q.1; omega)
                            have hRe := hTI.en (by omega) hk0
                            rw [hRX] at hRe
                            exact ⟨h84I, h84F, (hp0.of hx53_3.1 hx53_3.2.1 hx53_3.2.2).wri (L := pw_g gh53 161 0) (by omega) (by omega) (hx53_2 (by omega)).1 (by omega) ((hl89 _).trans (hw0.trans (hl85 0))) (fun j hj => (hl89 j).trans ((hw1 j hj).trans (hl90 j))) hkc hl86, ⟨_, rfl, by omega, by omega, ⟨(pt_e2 cE rfl).trans hx53_7, fun q => absurd ⟨by omega, by omega⟩ q, fun _ _ => ⟨L, hsg, by rw [hRe]⟩⟩⟩⟩
                          · intro hc91
                            change ¬ ((0 : Int) ≤ pw_g h74 161 (Int.toNat 2)) at hc91
                            refine pw_bip E (pc' := 151) rfl rfl (by decide) ?_
                            refine pw_goto E (pc' := 160) rfl (by decide) ?_
                            refine pw_ast0 h74I E (c := 159) (pc' := 161) rfl rfl rfl (by decide) rfl (by decide) (by omega) (by omega) rfl (by omega) (by omega) (by omega) (by omega) rfl ?_
                            intro h92I h92E
                            generalize h92w : pw_w h74 159 (ix.toNat) (pw_i 11) = h92 at h92I h92E ⊢
                            have h92F := h74F.tr (h92E.wk (W' := [125, 127, 128, 129, 146, 147, 157, 158, 159, 160, 161, 1002]) (by first | rfl | simp))
                            have hl93 : ∀ j : Nat, pw_g h92 161 j = pw_g gh53 161 j := fun j => ((((by rw [← h92w]; exact pw_g_ne (by omega) : pw_g h92 161 j = pw_g h74 161 j)).trans (by rw [← h74w]; exact pw_g_ne (by omega) : pw_g h74 161 j = pw_g h38 161 j)).trans (by rw [← h38w]; exact pw_g_ne (by omega) : pw_g h38 161 j = pw_g h35 161 j)).trans (pw_Eg (c := 161) I53 h35E rfl rfl j : pw_g h35 161 j = pw_g gh53 161 j)
                            have hr94 : pw_g h92 161 (Int.toNat 3) ≤ 10 := by rw [hl93]; exact (hx53_2 (by omega)).2.2.2
                            refine pw_ld E (pc' := 162) (st' := [.ref 141]) rfl (fun _ => rfl) ?_
                            refine pw_getR (b := 176) h92I E (c := 125) (k := 49) (pc' := 165) rfl rfl rfl rfl rfl rfl rfl ?_
                            refine pw_ld E (pc' := 166) (st' := [pw_i ix, .ref 176]) rfl (fun _ => rfl) ?_
                            refine pw_ld E (pc' := 167) (st' := [.ref 141, pw_i ix, .ref 176]) rfl (fun _ => rfl) ?_
                            refine pw_getR (b := 177) h92I E (c := 125) (k := 50) (pc' := 170) rfl rfl rfl rfl rfl rfl rfl ?_
                            refine pw_ld E (pc' := 171) (st' := [pw_i 3, .ref 177, pw_i ix, .ref 176]) rfl (fun _ => rfl) ?_
                            refine pw_ald2 h92I E (c := 161) (pc' := 172) rfl rfl rfl (by decide) rfl (by decide) (by omega) (by omega) rfl (fun hf95a hf95b => ?_)
                            refine pw_ast0 h92I E (c := 160) (pc' := 173) rfl rfl rfl (by decide) rfl (by decide) (by omega) (by omega) rfl (by omega) (by omega) (by omega) (by omega) rfl ?_
                            intro h96I h96E
                            generalize h96w : pw_w h92 160 (ix.toNat) (pw_i (pw_g h92 161 (Int.toNat 3))) = h96 at h96I h96E ⊢
                            have h96F := h92F.tr (h96E.wk (W' := [125, 127, 128, 129, 146, 147, 157, 158, 159, 160, 161, 1002]) (by first | rfl | simp))
                            refine pw_ld E (pc' := 174) (st' := [pw_i 0]) rfl (fun _ => rfl) ?_
                            refine pw_iret E rfl ?_
                            have hl97 : ∀ j : Nat, pw_g h35 161 j = pw_g gh53 161 j := fun j => (pw_Eg (c := 161) I53 h35E rfl rfl j : pw_g h35 161 j = pw_g gh53 161 j)
                            have hl98 : ∀ j : Nat, pw_g h96 145 j = pw_g gh53 145 j := fun j => (((((by rw [← h96w]; exact pw_g_ne (by omega) : pw_g h96 145 j = pw_g h92 145 j)).trans (by rw [← h92w]; exact pw_g_ne (by omega) : pw_g h92 145 j = pw_g h74 145 j)).trans (by rw [← h74w]; exact pw_g_ne (by omega) : pw_g h74 145 j = pw_g h38 145 j)).trans (by rw [← h38w]; exact pw_g_ne (by omega) : pw_g h38 145 j = pw_g h35 145 j)).trans (pw_Eg (c := 145) I53 h35E rfl rfl j : pw_g h35 145 j = pw_g gh53 145 j)
                            have hl99 : ∀ j : Nat, pw_g h96 146 j = pw_g h35 146 j := fun j => ((((by rw [← h96w]; exact pw_g_ne (by omega) : pw_g h96 146 j = pw_g h92 146 j)).trans (by rw [← h92w]; exact pw_g_ne (by omega) : pw_g h92 146 j = pw_g h74 146 j)).trans (by rw [← h74w]; exact pw_g_ne (by omega) : pw_g h74 146 j = pw_g h38 146 j)).trans (by rw [← h38w]; exact pw_g_ne (by omega) : pw_g h38 146 j = pw_g h35 146 j)
                            have hl100 : ∀ j : Nat, pw_g h96 147 j = pw_g h35 147 j := fun j => ((((by rw [← h96w]; exact pw_g_ne (by omega) : pw_g h96 147 j = pw_g h92 147 j)).trans (by rw [← h92w]; exact pw_g_ne (by omega) : pw_g h92 147 j = pw_g h74 147 j)).trans (by rw [← h74w]; exact pw_g_ne (by omega) : pw_g h74 147 j = pw_g h38 147 j)).trans (by rw [← h38w]; exact pw_g_ne (by omega) : pw_g h38 147 j = pw_g h35 147 j)
                            have hl101 : ∀ j : Nat, pw_g h96 157 j = pw_g h38 157 j := fun j => (((by rw [← h96w]; exact pw_g_ne (by omega) : pw_g h96 157 j = pw_g h92 157 j)).trans (by rw [← h92w]; exact pw_g_ne (by omega) : pw_g h92 157 j = pw_g h74 157 j)).trans (by rw [← h74w]; exact pw_g_ne (by omega) : pw_g h74 157 j = pw_g h38 157 j)
                            have hl102 : ∀ j : Nat, pw_g h35 157 j = pw_g gh53 157 j := fun j => (pw_Eg (c := 157) I53 h35E rfl rfl j : pw_g h35 157 j = pw_g gh53 157 j)
                            have hw0 : pw_g h38 157 (ix.toNat) = pw_g h35 161 (Int.toNat 0) := by rw [← h38w]; exact pw_g_eqA h35I rfl (by omega) (by omega) (by omega)
                            have hw1 : ∀ j : Nat, j ≠ ix.toNat → pw_g h38 157 j = pw_g h35 157 j := fun j hj => by rw [← h38w]; exact pw_g_ne (fun q => hj q.2.symm)
                            have hkc : pw_KC gh53 h96 (5 + ix) (pw_g gh53 125 32) := ⟨fun j hj => ⟨(hl99 _).trans (hqkeep.1 j hj).1, (hl100 _).trans (hqkeep.1 j hj).2⟩, fun j hj => ⟨(hl99 _).trans (hqkeep.2 j hj).1, (hl100 _).trans (hqkeep.2 j hj).2⟩⟩
                            have cE : pw_E [146, 147, 157, 158, 159, 160] gh53 h96 := (((((h35E.wk (W' := [146, 147, 157, 158, 159, 160]) (by first | rfl | simp)).tr (h38E.wk (W' := [146, 147, 157, 158, 159, 160]) (by first | rfl | simp))).tr (h74E.wk (W' := [146, 147, 157, 158, 159, 160]) (by first | rfl | simp))).tr (h92E.wk (W' := [146, 147, 157, 158, 159, 160]) (by first | rfl | simp))).tr (h96E.wk (W' := [146, 147, 157, 158, 159, 160]) (by first | rfl | simp)))
                            have hk0 : K (pw_g gh53 125 7).toNat = 0 := by rw [← hx53_5.1]; first | assumption | omega
                            obtain ⟨-, th, C, N, hTI, hMW⟩ := hx53_6.resolve_right (fun q => by have := q.1; omega)
                            have hRe := hTI.en (by omega) hk0
                            rw [hRX] at hRe
                            exact ⟨h96I, h96F, (hp0.of hx53_3.1 hx53_3.2.1 hx53_3.2.2).wri (L := pw_g gh53 161 0) (by omega) (by omega) (hx53_2 (by omega)).1 (by omega) ((hl101 _).trans (hw0.trans (hl97 0))) (fun j hj => (hl101 j).trans ((hw1 j hj).trans (hl102 j))) hkc hl98, ⟨_, rfl, by omega, by omega, ⟨(pt_e2 cE rfl).trans hx53_7, fun q => absurd ⟨by omega, by omega⟩ q, fun _ _ => ⟨L, hsg, by rw [hRe]⟩⟩⟩⟩
                      · intro hc103
                        change ¬ (pw_g gh53 125 8 ≤ (0 : Int)) at hc103
                        refine pw_ld E (pc' := 87) (st' := [.ref 141]) rfl (fun _ => rfl) ?_
                        refine pw_getI2 I53 E (c := 125) (k := 8) (pc' := 90) rfl rfl rfl rfl rfl rfl (fun hf104a hf104b => ?_)
                        refine pw_iret E rfl ?_
                        have hRf := (hx53_6.resolve_left (fun q => by have := q.1; omega)).2
                        exact ⟨I53, E53, (hp0.of hx53_3.1 hx53_3.2.1 hx53_3.2.2), ⟨_, rfl, by omega, by omega, ⟨hx53_7, fun q => absurd ⟨by omega, by omega⟩ q, fun _ _ => ⟨L, hsg, by rw [← hRX]; exact hRf.symm⟩⟩⟩⟩
                    · intro hc105
                      change ¬ (pw_g gh53 125 8 ≠ (0 : Int)) at hc105
                      refine pw_ld E (pc' := 61) (st' := [.ref 141]) rfl (fun _ => rfl) ?_
                      refine pw_getR (b := 143) I53 E (c := 125) (k := 4) (pc' := 64) rfl rfl rfl rfl rfl rfl rfl ?_
                      refine pw_ld E (pc' := 65) (st' := [.ref 141, .ref 143]) rfl (fun _ => rfl) ?_
                      refine pw_getI2 I53 E (c := 125) (k := 7) (pc' := 68) rfl rfl rfl rfl rfl rfl (fun hf106a hf106b => ?_)
                      refine pw_ald2 I53 E (c := 127) (pc' := 69) rfl rfl rfl (by decide) rfl (by decide) (by omega) (by omega) rfl (fun hf107a hf107b => ?_)
                      refine pw_if E (pc' := 79) rfl (by decide) (by omega) (by omega) ?_ ?_
                      · intro hc108
                        change pw_g gh53 127 ((pw_g gh53 125 7).toNat) = (0 : Int) at hc108
                        have hA53 : pw_g gh53 125 7 ≤ n ∧ 0 ≤ pw_g gh53 125 8 ∧ 0 ≤ pw_g gh53 125 7 ∧ 0 ≤ pw_g gh53 125 32 := hx53_0.2.2
                        have hn1 : n ≤ 1000 := hx53_0.1
                        refine pw_ld E (pc' := 80) (st' := [.ref 141]) rfl (fun _ => rfl) ?_
                        refine pw_getI2 I53 E (c := 125) (k := 8) (pc' := 83) rfl rfl rfl rfl rfl rfl (fun hf109a hf109b => ?_)
                        refine pw_if E (pc' := 91) rfl (by decide) (by omega) (by omega) ?_ ?_
                        · intro hc110
                          change pw_g gh53 125 8 ≤ (0 : Int) at hc110
                          refine pw_ld E (pc' := 92) (st' := [.ref 141]) rfl (fun _ => rfl) ?_
                          refine pw_ld E (pc' := 93) (st' := [pw_i 5, .ref 141]) rfl (fun _ => rfl) ?_
                          refine pw_ld E (pc' := 94) (st' := [pw_i ix, pw_i 5, .ref 141]) rfl (fun _ => rfl) ?_
                          refine pw_add E (pc' := 95) rfl rfl ?_
                          obtain ⟨f111l, f111h, -⟩ := pw_obj (c := 125) I53 rfl
                          refine pw_call (m' := 258) (As := [.ref 141, pw_i (5 + ix)]) (rest := []) (ls'' := [some (.ref 141), some (pw_i (5 + ix)), none]) (Nat.le_trans (by decide) hd) E rfl (fun _ => pw_iV rfl rfl rfl rfl (pw_cellI f111h rfl)) (rfl : pm_ent 258 = some (2, 3, 12, 4, pmc_258)) rfl rfl (cm_258 (pw_dp hd (by decide)) I53 (5 + ix) (by omega) (by omega) (by omega) (by omega)) ?_
                          rintro h112 v113 ⟨h112I, h112E, hqkeep, rfl⟩
                          refine ⟨_, rfl, ?_⟩
                          have h112F := E53.tr (h112E.wk (W' := [125, 127, 128, 129, 146, 147, 157, 158, 159, 160, 161, 1002]) (by first | rfl | simp))
                          show pw X d h112 277 98 [some (.ref 141), some (pw_i ix), some (pw_i ((((0 + 1) + 1) + 1) + 1))] [] _
                          refine pw_ld E (pc' := 99) (st' := [.ref 141]) rfl (fun _ => rfl) ?_
                          refine pw_getR (b := 173) h112I E (c := 125) (k := 46) (pc' := 102) rfl rfl rfl rfl rfl rfl rfl ?_
                          refine pw_ld E (pc' := 103) (st' := [pw_i ix, .ref 173]) rfl (fun _ => rfl) ?_
                          refine pw_ld E (pc' := 104) (st' := [.ref 141, pw_i ix, .ref 173]) rfl (fun _ => rfl) ?_
                          refine pw_getR (b := 177) h112I E (c := 125) (k := 50) (pc' := 107) rfl rfl rfl rfl rfl rfl rfl ?_
                          refine pw_ld E (pc' := 108) (st' := [pw_i 0, .ref 177, pw_i ix, .ref 173]) rfl (fun _ => rfl) ?_
                          refine pw_ald2 h112I E (c := 161) (pc' := 109) rfl rfl rfl (by decide) rfl (by decide) (by omega) (by omega) rfl (fun hf114a hf114b => ?_)
                          refine pw_ast0 h112I E (c := 157) (pc' := 110) rfl rfl rfl (by decide) rfl (by decide) (by omega) (by omega) rfl (by omega) (by omega) (by omega) (by omega) rfl ?_
                          intro h115I h115E
                          generalize h115w : pw_w h112 157 (ix.toNat) (pw_i (pw_g h112 161 (Int.toNat 0))) = h115 at h115I h115E ⊢
                          have h115F := h112F.tr (h115E.wk (W' := [125, 127, 128, 129, 146, 147, 157, 158, 159, 160, 161, 1002]) (by first | rfl | simp))
                          have hl116 : ∀ j : Nat, pw_g h115 161 j = pw_g gh53 161 j := fun j => ((by rw [← h115w]; exact pw_g_ne (by omega) : pw_g h115 161 j = pw_g h112 161 j)).trans (pw_Eg (c := 161) I53 h112E rfl rfl j : pw_g h112 161 j = pw_g gh53 161 j)
                          have hr117 : pw_g h115 161 (Int.toNat 1) ≤ 11 := by rw [hl116]; exact (hx53_2 (by omega)).2.1
                          refine pw_ld E (pc' := 111) (st' := [.ref 141]) rfl (fun _ => rfl) ?_
                          refine pw_getR (b := 174) h115I E (c := 125) (k := 47) (pc' := 114) rfl rfl rfl rfl rfl rfl rfl ?_
                          refine pw_ld E (pc' := 115) (st' := [pw_i ix, .ref 174]) rfl (fun _ => rfl) ?_
                          refine pw_ld E (pc' := 116) (st' := [.ref 141, pw_i ix, .ref 174]) rfl (fun _ => rfl) ?_
                          refine pw_getR (b := 177) h115I E (c := 125) (k := 50) (pc' := 119) rfl rfl rfl rfl rfl rfl rfl ?_
                          refine pw_ld E (pc' := 120) (st' := [pw_i 1, .ref 177, pw_i ix, .ref 174]) rfl (fun _ => rfl) ?_
                          refine pw_ald2 h115I E (c := 161) (pc' := 121) rfl rfl rfl (by decide) rfl (by decide) (by omega) (by omega) rfl (fun hf118a hf118b => ?_)
                          refine pw_if E (pc' := 128) rfl (by decide) (by omega) (by omega) ?_ ?_
                          · intro hc119
                            change (0 : Int) ≤ pw_g h115 161 (Int.toNat 1) at hc119
                            refine pw_ld E (pc' := 129) (st' := [.ref 141, pw_i ix, .ref 174]) rfl (fun _ => rfl) ?_
                            refine pw_getR (b := 177) h115I E (c := 125) (k := 50) (pc' := 132) rfl rfl rfl rfl rfl rfl rfl ?_
                            refine pw_ld E (pc' := 133) (st' := [pw_i 1, .ref 177, pw_i ix, .ref 174]) rfl (fun _ => rfl) ?_
                            refine pw_ald2 h115I E (c := 161) (pc' := 134) rfl rfl rfl (by decide) rfl (by decide) (by omega) (by omega) rfl (fun hf120a hf120b => ?_)
                            refine pw_ast0 h115I E (c := 158) (pc' := 135) rfl rfl rfl (by decide) rfl (by decide) (by omega) (by omega) rfl (by omega) (by omega) (by omega) (by omega) rfl ?_
                            intro h121I h121E
                            generalize h121w : pw_w h115 158 (ix.toNat) (pw_i (pw_g h115 161 (Int.toNat 1))) = h121 at h121I h121E ⊢
                            have h121F := h115F.tr (h121E.wk (W' := [125, 127, 128, 129, 146, 147, 157, 158, 159, 160, 161, 1002]) (by first | rfl | simp))
                            have hl122 : ∀ j : Nat, pw_g h121 161 j = pw_g gh53 161 j := fun j => (((by rw [← h121w]; exact pw_g_ne (by omega) : pw_g h121 161 j = pw_g h115 161 j)).trans (by rw [← h115w]; exact pw_g_ne (by omega) : pw_g h115 161 j = pw_g h112 161 j)).trans (pw_Eg (c := 161) I53 h112E rfl rfl j : pw_g h112 161 j = pw_g gh53 161 j)
                            have hr123 : pw_g h121 161 (Int.toNat 2) ≤ 11 := by rw [hl122]; exact (hx53_2 (by omega)).2.2.1
                            refine pw_ld E (pc' := 136) (st' := [.ref 141]) rfl (fun _ => rfl) ?_
                            refine pw_getR (b := 175) h121I E (c := 125) (k := 48) (pc' := 139) rfl rfl rfl rfl rfl rfl rfl ?_
                            refine pw_ld E (pc' := 140) (st' := [pw_i ix, .ref 175]) rfl (fun _ => rfl) ?_
                            refine pw_ld E (pc' := 141) (st' := [.ref 141, pw_i ix, .ref 175]) rfl (fun _ => rfl) ?_
                            refine pw_getR (b := 177) h121I E (c := 125) (k := 50) (pc' := 144) rfl rfl rfl rfl rfl rfl rfl ?_
                            refine pw_ld E (pc' := 145) (st' := [pw_i 2, .ref 177, pw_i ix, .ref 175]) rfl (fun _ => rfl) ?_
                            refine pw_ald2 h121I E (c := 161) (pc' := 146) rfl rfl rfl (by decide) rfl (by decide) (by omega) (by omega) rfl (fun hf124a hf124b => ?_)
                            refine pw_if E (pc' := 154) rfl (by decide) (by omega) (by omega) ?_ ?_
                            · intro hc125
                              change (0 : Int) ≤ pw_g h121 161 (Int.toNat 2) at hc125
                              refine pw_ld E (pc' := 155) (st' := [.ref 141, pw_i ix, .ref 175]) rfl (fun _ => rfl) ?_
                              refine pw_getR (b := 177) h121I E (c := 125) (k := 50) (pc' := 158) rfl rfl rfl rfl rfl rfl rfl ?_
                              refine pw_ld E (pc' := 159) (st' := [pw_i 2, .ref 177, pw_i ix, .ref 175]) rfl (fun _ => rfl) ?_
                              refine pw_ald2 h121I E (c := 161) (pc' := 160) rfl rfl rfl (by decide) rfl (by decide) (by omega) (by omega) rfl (fun hf126a hf126b => ?_)
                              refine pw_ast0 h121I E (c := 159) (pc' := 161) rfl rfl rfl (by decide) rfl (by decide) (by omega) (by omega) rfl (by omega) (by omega) (by omega) (by omega) rfl ?_
                              intro h127I h127E
                              generalize h127w : pw_w h121 159 (ix.toNat) (pw_i (pw_g h121 161 (Int.toNat 2))) = h127 at h127I h127E ⊢
                              have h127F := h121F.tr (h127E.wk (W' := [125, 127, 128, 129, 146, 147, 157, 158, 159, 160, 161, 1002]) (by first | rfl | simp))
                              have hl128 : ∀ j : Nat, pw_g h127 161 j = pw_g gh53 161 j := fun j => ((((by rw [← h127w]; exact pw_g_ne (by omega) : pw_g h127 161 j = pw_g h121 161 j)).trans (by rw [← h121w]; exact pw_g_ne (by omega) : pw_g h121 161 j = pw_g h115 161 j)).trans (by rw [← h115w]; exact pw_g_ne (by omega) : pw_g h115 161 j = pw_g h112 161 j)).trans (pw_Eg (c := 161) I53 h112E rfl rfl j : pw_g h112 161 j = pw_g gh53 161 j)
                              have hr129 : pw_g h127 161 (Int.toNat 3) ≤ 10 := by rw [hl128]; exact (hx53_2 (by omega)).2.2.2
                              refine pw_ld E (pc' := 162) (st' := [.ref 141]) rfl (fun _ => rfl) ?_
                              refine pw_getR (b := 176) h127I E (c := 125) (k := 49) (pc' := 165) rfl rfl rfl rfl rfl rfl rfl ?_
                              refine pw_ld E (pc' := 166) (st' := [pw_i ix, .ref 176]) rfl (fun _ => rfl) ?_
                              refine pw_ld E (pc' := 167) (st' := [.ref 141, pw_i ix, .ref 176]) rfl (fun _ => rfl) ?_
                              refine pw_getR (b := 177) h127I E (c := 125) (k := 50) (pc' := 170) rfl rfl rfl rfl rfl rfl rfl ?_
                              refine pw_ld E (pc' := 171) (st' := [pw_i 3, .ref 177, pw_i ix, .ref 176]) rfl (fun _ => rfl) ?_
                              refine pw_ald2 h127I E (c := 161) (pc' := 172) rfl rfl rfl (by decide) rfl (by decide) (by omega) (by omega) rfl (fun hf130a hf130b => ?_)
                              refine pw_ast0 h127I E (c := 160) (pc' := 173) rfl rfl rfl (by decide) rfl (by decide) (by omega) (by omega) rfl (by omega) (by omega) (by omega) (by omega) rfl ?_
                              intro h131I h131E
                              generalize h131w : pw_w h127 160 (ix.toNat) (pw_i (pw_g h127 161 (Int.toNat 3))) = h131 at h131I h131E ⊢
                              have h131F := h127F.tr (h131E.wk (W' := [125, 127, 128, 129, 146, 147, 157, 158, 159, 160, 161, 1002]) (by first | rfl | simp))
                              refine pw_ld E (pc' := 174) (st' := [pw_i 0]) rfl (fun _ => rfl) ?_
                              refine pw_iret E rfl ?_
                              have hl132 : ∀ j : Nat, pw_g h112 161 j = pw_g gh53 161 j := fun j => (pw_Eg (c := 161) I53 h112E rfl rfl j : pw_g h112 161 j = pw_g gh53 161 j)
                              have hl133 : ∀ j : Nat, pw_g h131 145 j = pw_g gh53 145 j := fun j => (((((by rw [← h131w]; exact pw_g_ne (by omega) : pw_g h131 145 j = pw_g h127 145 j)).trans (by rw [← h127w]; exact pw_g_ne (by omega) : pw_g h127 145 j = pw_g h121 145 j)).trans (by rw [← h121w]; exact pw_g_ne (by omega) : pw_g h121 145 j = pw_g h115 145 j)).trans (by rw [← h115w]; exact pw_g_ne (by omega) : pw_g h115 145 j = pw_g h112 145 j)).trans (pw_Eg (c := 145) I53 h112E rfl rfl j : pw_g h112 145 j = pw_g gh53 145 j)
                              have hl134 : ∀ j : Nat, pw_g h131 146 j = pw_g h112 146 j := fun j => ((((by rw [← h131w]; exact pw_g_ne (by omega) : pw_g h131 146 j = pw_g h127 146 j)).trans (by rw [← h127w]; exact pw_g_ne (by omega) : pw_g h127 146 j = pw_g h121 146 j)).trans (by rw [← h121w]; exact pw_g_ne (by omega) : pw_g h121 146 j = pw_g h115 146 j)).trans (by rw [← h115w]; exact pw_g_ne (by omega) : pw_g h115 146 j = pw_g h112 146 j)
                              have hl135 : ∀ j : Nat, pw_g h131 147 j = pw_g h112 147 j := fun j => ((((by rw [← h131w]; exact pw_g_ne (by omega) : pw_g h131 147 j = pw_g h127 147 j)).trans (by rw [← h127w]; exact pw_g_ne (by omega) : pw_g h127 147 j = pw_g h121 147 j)).trans (by rw [← h121w]; exact pw_g_ne (by omega) : pw_g h121 147 j = pw_g h115 147 j)).trans (by rw [← h115w]; exact pw_g_ne (by omega) : pw_g h115 147 j = pw_g h112 147 j)
                              have hl136 : ∀ j : Nat, pw_g h131 157 j = pw_g h115 157 j := fun j => (((by rw [← h131w]; exact pw_g_ne (by omega) : pw_g h131 157 j = pw_g h127 157 j)).trans (by rw [← h127w]; exact pw_g_ne (by omega) : pw_g h127 157 j = pw_g h121 157 j)).trans (by rw [← h121w]; exact pw_g_ne (by omega) : pw_g h121 157 j = pw_g h115 157 j)
                              have hl137 : ∀ j : Nat, pw_g h112 157 j = pw_g gh53 157 j := fun j => (pw_Eg (c := 157) I53 h112E rfl rfl j : pw_g h112 157 j = pw_g gh53 157 j)
                              have hw0 : pw_g h115 157 (ix.toNat) = pw_g h112 161 (Int.toNat 0) := by rw [← h115w]; exact pw_g_eqA h112I rfl (by omega) (by omega) (by omega)
                              have hw1 : ∀ j : Nat, j ≠ ix.toNat → pw_g h115 157 j = pw_g h112 157 j := fun j hj => by rw [← h115w]; exact pw_g_ne (fun q => hj q.2.symm)
                              have hkc : pw_KC gh53 h131 (5 + ix) (pw_g gh53 125 32) := ⟨fun j hj => ⟨(hl134 _).trans (hqkeep.1 j hj).1, (hl135 _).trans (hqkeep.1 j hj).2⟩, fun j hj => ⟨(hl134 _).trans (hqkeep.2 j hj).1, (hl135 _).trans (hqkeep.2 j hj).2⟩⟩
                              have cE : pw_E [146, 147, 157, 158, 159, 160] gh53 h131 := (((((h112E.wk (W' := [146, 147, 157, 158, 159, 160]) (by first | rfl | simp)).tr (h115E.wk (W' := [146, 147, 157, 158, 159, 160]) (by first | rfl | simp))).tr (h121E.wk (W' := [146, 147, 157, 158, 159, 160]) (by first | rfl | simp))).tr (h127E.wk (W' := [146, 147, 157, 158, 159, 160]) (by first | rfl | simp))).tr (h131E.wk (W' := [146, 147, 157, 158, 159, 160]) (by first | rfl | simp)))
                              have hk0 : K (pw_g gh53 125 7).toNat = 0 := by rw [← hx53_5.1]; first | assumption | omega
                              obtain ⟨-, th, C, N, hTI, hMW⟩ := hx53_6.resolve_right (fun q => by have := q.1; omega)
                              have hRe := hTI.en (by omega) hk0
                              rw [hRX] at hRe
                              exact ⟨h131I, h131F, (hp0.of hx53_3.1 hx53_3.2.1 hx53_3.2.2).wri (L := pw_g gh53 161 0) (by omega) (by omega) (hx53_2 (by omega)).1 (by omega) ((hl136 _).trans (hw0.trans (hl132 0))) (fun j hj => (hl136 j).trans ((hw1 j hj).trans (hl137 j))) hkc hl133, ⟨_, rfl, by omega, by omega, ⟨(pt_e2 cE rfl).trans hx53_7, fun q => absurd ⟨by omega, by omega⟩ q, fun _ _ => ⟨L, hsg, by rw [hRe]⟩⟩⟩⟩
                            · intro hc138
                              change ¬ ((0 : Int) ≤ pw_g h121 161 (Int.toNat 2)) at hc138
                              refine pw_bip E (pc' := 151) rfl rfl (by decide) ?_
                              refine pw_goto E (pc' := 160) rfl (by decide) ?_
                              refine pw_ast0 h121I E (c := 159) (pc' := 161) rfl rfl rfl (by decide) rfl (by decide) (by omega) (by omega) rfl (by omega) (by omega) (by omega) (by omega) rfl ?_
                              intro h139I h139E
                              generalize h139w : pw_w h121 159 (ix.toNat) (pw_i 11) = h139 at h139I h139E ⊢
                              have h139F := h121F.tr (h139E.wk (W' := [125, 127, 128, 129, 146, 147, 157, 158, 159, 160, 161, 1002]) (by first | rfl | simp))
                              have hl140 : ∀ j : Nat, pw_g h139 161 j = pw_g gh53 161 j := fun j => ((((by rw [← h139w]; exact pw_g_ne (by omega) : pw_g h139 161 j = pw_g h121 161 j)).trans (by rw [← h121w]; exact pw_g_ne (by omega) : pw_g h121 161 j = pw_g h115 161 j)).trans (by rw [← h115w]; exact pw_g_ne (by omega) : pw_g h115 161 j = pw_g h112 161 j)).trans (pw_Eg (c := 161) I53 h112E rfl rfl j : pw_g h112 161 j = pw_g gh53 161 j)
                              have hr141 : pw_g h139 161 (Int.toNat 3) ≤ 10 := by rw [hl140]; exact (hx53_2 (by omega)).2.2.2
                              refine pw_ld E (pc' := 162) (st' := [.ref 141]) rfl (fun _ => rfl) ?_
                              refine pw_getR (b := 176) h139I E (c := 125) (k := 49) (pc' := 165) rfl rfl rfl rfl rfl rfl rfl ?_
                              refine pw_ld E (pc' := 166) (st' := [pw_i ix, .ref 176]) rfl (fun _ => rfl) ?_
                              refine pw_ld E (pc' := 167) (st' := [.ref 141, pw_i ix, .ref 176]) rfl (fun _ => rfl) ?_
                              refine pw_getR (b := 177) h139I E (c := 125) (k := 50) (pc' := 170) rfl rfl rfl rfl rfl rfl rfl ?_
                              refine pw_ld E (pc' := 171) (st' := [pw_i 3, .ref 177, pw_i ix, .ref 176]) rfl (fun _ => rfl) ?_
                              refine pw_ald2 h139I E (c := 161) (pc' := 172) rfl rfl rfl (by decide) rfl (by decide) (by omega) (by omega) rfl (fun hf142a hf142b => ?_)
                              refine pw_ast0 h139I E (c := 160) (pc' := 173) rfl rfl rfl (by decide) rfl (by decide) (by omega) (by omega) rfl (by omega) (by omega) (by omega) (by omega) rfl ?_
                              intro h143I h143E
                              generalize h143w : pw_w h139 160 (ix.toNat) (pw_i (pw_g h139 161 (Int.toNat 3))) = h143 at h143I h143E ⊢
                              have h143F := h139F.tr (h143E.wk (W' := [125, 127, 128, 129, 146, 147, 157, 158, 159, 160, 161, 1002]) (by first | rfl | simp))
                              refine pw_ld E (pc' := 174) (st' := [pw_i 0]) rfl (fun _ => rfl) ?_
                              refine pw_iret E rfl ?_
                              have hl144 : ∀ j : Nat, pw_g h112 161 j = pw_g gh53 161 j := fun j => (pw_Eg (c := 161) I53 h112E rfl rfl j : pw_g h112 161 j = pw_g gh53 161 j)
                              have hl145 : ∀ j : Nat, pw_g h143 145 j = pw_g gh53 145 j := fun j => (((((by rw [← h143w]; exact pw_g_ne (by omega) : pw_g h143 145 j = pw_g h139 145 j)).trans (by rw [← h139w]; exact pw_g_ne (by omega) : pw_g h139 145 j = pw_g h121 145 j)).trans (by rw [← h121w]; exact pw_g_ne (by omega) : pw_g h121 145 j = pw_g h115 145 j)).trans (by rw [← h115w]; exact pw_g_ne (by omega) : pw_g h115 145 j = pw_g h112 145 j)).trans (pw_Eg (c := 145) I53 h112E rfl rfl j : pw_g h112 145 j = pw_g gh53 145 j)
                              have hl146 : ∀ j : Nat, pw_g h143 146 j = pw_g h112 146 j := fun j => ((((by rw [← h143w]; exact pw_g_ne (by omega) : pw_g h143 146 j = pw_g h139 146 j)).trans (by rw [← h139w]; exact pw_g_ne (by omega) : pw_g h139 146 j = pw_g h121 146 j)).trans (by rw [← h121w]; exact pw_g_ne (by omega) : pw_g h121 146 j = pw_g h115 146 j)).trans (by rw [← h115w]; exact pw_g_ne (by omega) : pw_g h115 146 j = pw_g h112 146 j)
                              have hl147 : ∀ j : Nat, pw_g h143 147 j = pw_g h112 147 j := fun j => ((((by rw [← h143w]; exact pw_g_ne (by omega) : pw_g h143 147 j = pw_g h139 147 j)).trans (by rw [← h139w]; exact pw_g_ne (by omega) : pw_g h139 147 j = pw_g h121 147 j)).trans (by rw [← h121w]; exact pw_g_ne (by omega) : pw_g h121 147 j = pw_g h115 147 j)).trans (by rw [← h115w]; exact pw_g_ne (by omega) : pw_g h115 147 j = pw_g h112 147 j)
                              have hl148 : ∀ j : Nat, pw_g h143 157 j = pw_g h115 157 j := fun j => (((by rw [← h143w]; exact pw_g_ne (by omega) : pw_g h143 157 j = pw_g h139 157 j)).trans (by rw [← h139w]; exact pw_g_ne (by omega) : pw_g h139 157 j = pw_g h121 157 j)).trans (by rw [← h121w]; exact pw_g_ne (by omega) : pw_g h121 157 j = pw_g h115 157 j)
                              have hl149 : ∀ j : Nat, pw_g h112 157 j = pw_g gh53 157 j := fun j => (pw_Eg (c := 157) I53 h112E rfl rfl j : pw_g h112 157 j = pw_g gh53 157 j)
                              have hw0 : pw_g h115 157 (ix.toNat) = pw_g h112 161 (Int.toNat 0) := by rw [← h115w]; exact pw_g_eqA h112I rfl (by omega) (by omega) (by omega)
                              have hw1 : ∀ j : Nat, j ≠ ix.toNat → pw_g h115 157 j = pw_g h112 157 j := fun j hj => by rw [← h115w]; exact pw_g_ne (fun q => hj q.2.symm)
                              have hkc : pw_KC gh53 h143 (5 + ix) (pw_g gh53 125 32) := ⟨fun j hj => ⟨(hl146 _).trans (hqkeep.1 j hj).1, (hl147 _).trans (hqkeep.1 j hj).2⟩, fun j hj => ⟨(hl146 _).trans (hqkeep.2 j hj).1, (hl147 _).trans (hqkeep.2 j hj).2⟩⟩
                              have cE : pw_E [146, 147, 157, 158, 159, 160] gh53 h143 := (((((h112E.wk (W' := [146, 147, 157, 158, 159, 160]) (by first | rfl | simp)).tr (h115E.wk (W' := [146, 147, 157, 158, 159, 160]) (by first | rfl | simp))).tr (h121E.wk (W' := [146, 147, 157, 158, 159, 160]) (by first | rfl | simp))).tr (h139E.wk (W' := [146, 147, 157, 158, 159, 160]) (by first | rfl | simp))).tr (h143E.wk (W' := [146, 147, 157, 158, 159, 160]) (by first | rfl | simp)))
                              have hk0 : K (pw_g gh53 125 7).toNat = 0 := by rw [← hx53_5.1]; first | assumption | omega
                              obtain ⟨-, th, C, N, hTI, hMW⟩ := hx53_6.resolve_right (fun q => by have := q.1; omega)
                              have hRe := hTI.en (by omega) hk0
                              rw [hRX] at hRe
                              exact ⟨h143I, h143F, (hp0.of hx53_3.1 hx53_3.2.1 hx53_3.2.2).wri (L := pw_g gh53 161 0) (by omega) (by omega) (hx53_2 (by omega)).1 (by omega) ((hl148 _).trans (hw0.trans (hl144 0))) (fun j hj => (hl148 j).trans ((hw1 j hj).trans (hl149 j))) hkc hl145, ⟨_, rfl, by omega, by omega, ⟨(pt_e2 cE rfl).trans hx53_7, fun q => absurd ⟨by omega, by omega⟩ q, fun _ _ => ⟨L, hsg, by rw [hRe]⟩⟩⟩⟩
                          · intro hc150
                            change ¬ ((0 : Int) ≤ pw_g h115 161 (Int.toNat 1)) at hc150
                            refine pw_ld E (pc' := 125) (st' := [pw_i 0, pw_i ix, .ref 174]) rfl (fun _ => rfl) ?_
                            refine pw_goto E (pc' := 134) rfl (by decide) ?_
                            refine pw_ast0 h115I E (c := 158) (pc' := 135) rfl rfl rfl (by decide) rfl (by decide) (by omega) (by omega) rfl (by omega) (by omega) (by omega) (by omega) rfl ?_
                            intro h151I h151E
                            generalize h151w : pw_w h115 158 (ix.toNat) (pw_i 0) = h151 at h151I h151E ⊢
                            have h151F := h115F.tr (h151E.wk (W' := [125, 127, 128, 129, 146, 147, 157, 158, 159, 160, 161, 1002]) (by first | rfl | simp))
                            have hl152 : ∀ j : Nat, pw_g h151 161 j = pw_g gh53 161 j := fun j => (((by rw [← h151w]; exact pw_g_ne (by omega) : pw_g h151 161 j = pw_g h115 161 j)).trans (by rw [← h115w]; exact pw_g_ne (by omega) : pw_g h115 161 j = pw_g h112 161 j)).trans (pw_Eg (c := 161) I53 h112E rfl rfl j : pw_g h112 161 j = pw_g gh53 161 j)
                            have hr153 : pw_g h151 161 (Int.toNat 2) ≤ 11 := by rw [hl152]; exact (hx53_2 (by omega)).2.2.1
                            refine pw_ld E (pc' := 136) (st' := [.ref 141]) rfl (fun _ => rfl) ?_
                            refine pw_getR (b := 175) h151I E (c := 125) (k := 48) (pc' := 139) rfl rfl rfl rfl rfl rfl rfl ?_
                            refine pw_ld E (pc' := 140) (st' := [pw_i ix, .ref 175]) rfl (fun _ => rfl) ?_
                            refine pw_ld E (pc' := 141) (st' := [.ref 141, pw_i ix, .ref 175]) rfl (fun _ => rfl) ?_
                            refine pw_getR (b := 177) h151I E (c := 125) (k := 50) (pc' := 144) rfl rfl rfl rfl rfl rfl rfl ?_
                            refine pw_ld E (pc' := 145) (st' := [pw_i 2, .ref 177, pw_i ix, .ref 175]) rfl (fun _ => rfl) ?_
                            refine pw_ald2 h151I E (c := 161) (pc' := 146) rfl rfl rfl (by decide) rfl (by decide) (by omega) (by omega) rfl (fun hf154a hf154b => ?_)
                            refine pw_if E (pc' := 154) rfl (by decide) (by omega) (by omega) ?_ ?_
                            · intro hc155
                              change (0 : Int) ≤ pw_g h151 161 (Int.toNat 2) at hc155
                              refine pw_ld E (pc' := 155) (st' := [.ref 141, pw_i ix, .ref 175]) rfl (fun _ => rfl) ?_
                              refine pw_getR (b := 177) h151I E (c := 125) (k := 50) (pc' := 158) rfl rfl rfl rfl rfl rfl rfl ?_
                              refine pw_ld E (pc' := 159) (st' := [pw_i 2, .ref 177, pw_i ix, .ref 175]) rfl (fun _ => rfl) ?_
                              refine pw_ald2 h151I E (c := 161) (pc' := 160) rfl rfl rfl (by decide) rfl (by decide) (by omega) (by omega) rfl (fun hf156a hf156b => ?_)
                              refine pw_ast0 h151I E (c := 159) (pc' := 161) rfl rfl rfl (by decide) rfl (by decide) (by omega) (by omega) rfl (by omega) (by omega) (by omega) (by omega) rfl ?_
                              intro h157I h157E
                              generalize h157w : pw_w h151 159 (ix.toNat) (pw_i (pw_g h151 161 (Int.toNat 2))) = h157 at h157I h157E ⊢
                              have h157F := h151F.tr (h157E.wk (W' := [125, 127, 128, 129, 146, 147, 157, 158, 159, 160, 161, 1002]) (by first | rfl | simp))
                              have hl158 : ∀ j : Nat, pw_g h157 161 j = pw_g gh53 161 j := fun j => ((((by rw [← h157w]; exact pw_g_ne (by omega) : pw_g h157 161 j = pw_g h151 161 j)).trans (by rw [← h151w]; exact pw_g_ne (by omega) : pw_g h151 161 j = pw_g h115 161 j)).trans (by rw [← h115w]; exact pw_g_ne (by omega) : pw_g h115 161 j = pw_g h112 161 j)).trans (pw_Eg (c := 161) I53 h112E rfl rfl j : pw_g h112 161 j = pw_g gh53 161 j)
                              have hr159 : pw_g h157 161 (Int.toNat 3) ≤ 10 := by rw [hl158]; exact (hx53_2 (by omega)).2.2.2
                              refine pw_ld E (pc' := 162) (st' := [.ref 141]) rfl (fun _ => rfl) ?_
                              refine pw_getR (b := 176) h157I E (c := 125) (k := 49) (pc' := 165) rfl rfl rfl rfl rfl rfl rfl ?_
                              refine pw_ld E (pc' := 166) (st' := [pw_i ix, .ref 176]) rfl (fun _ => rfl) ?_
                              refine pw_ld E (pc' := 167) (st' := [.ref 141, pw_i ix, .ref 176]) rfl (fun _ => rfl) ?_
                              refine pw_getR (b := 177) h157I E (c := 125) (k := 50) (pc' := 170) rfl rfl rfl rfl rfl rfl rfl ?_
                              refine pw_ld E (pc' := 171) (st' := [pw_i 3, .ref 177, pw_i ix, .ref 176]) rfl (fun _ => rfl) ?_
                              refine pw_ald2 h157I E (c := 161) (pc' := 172) rfl rfl rfl (by decide) rfl (by decide) (by omega) (by omega) rfl (fun hf160a hf160b => ?_)
                              refine pw_ast0 h157I E (c := 160) (pc' := 173) rfl rfl rfl (by decide) rfl (by decide) (by omega) (by omega) rfl (by omega) (by omega) (by omega) (by omega) rfl ?_
                              intro h161I h161E
                              generalize h161w : pw_w h157 160 (ix.toNat) (pw_i (pw_g h157 161 (Int.toNat 3))) = h161 at h161I h161E ⊢
                              have h161F := h157F.tr (h161E.wk (W' := [125, 127, 128, 129, 146, 147, 157, 158, 159, 160, 161, 1002]) (by first | rfl | simp))
                              refine pw_ld E (pc' := 174) (st' := [pw_i 0]) rfl (fun _ => rfl) ?_
                              refine pw_iret E rfl ?_
                              have hl162 : ∀ j : Nat, pw_g h112 161 j = pw_g gh53 161 j := fun j => (pw_Eg (c := 161) I53 h112E rfl rfl j : pw_g h112 161 j = pw_g gh53 161 j)
                              have hl163 : ∀ j : Nat, pw_g h161 145 j = pw_g gh53 145 j := fun j => (((((by rw [← h161w]; exact pw_g_ne (by omega) : pw_g h161 145 j = pw_g h157 145 j)).trans (by rw [← h157w]; exact pw_g_ne (by omega) : pw_g h157 145 j = pw_g h151 145 j)).trans (by rw [← h151w]; exact pw_g_ne (by omega) : pw_g h151 145 j = pw_g h115 145 j)).trans (by rw [← h115w]; exact pw_g_ne (by omega) : pw_g h115 145 j = pw_g h112 145 j)).trans (pw_Eg (c := 145) I53 h112E rfl rfl j : pw_g h112 145 j = pw_g gh53 145 j)
                              have hl164 : ∀ j : Nat, pw_g h161 146 j = pw_g h112 146 j := fun j => ((((by rw [← h161w]; exact pw_g_ne (by omega) : pw_g h161 146 j = pw_g h157 146 j)).trans (by rw [← h157w]; exact pw_g_ne (by omega) : pw_g h157 146 j = pw_g h151 146 j)).trans (by rw [← h151w]; exact pw_g_ne (by omega) : pw_g h151 146 j = pw_g h115 146 j)).trans (by rw [← h115w]; exact pw_g_ne (by omega) : pw_g h115 146 j = pw_g h112 146 j)
                              have hl165 : ∀ j : Nat, pw_g h161 147 j = pw_g h112 147 j := fun j => ((((by rw [← h161w]; exact pw_g_ne (by omega) : pw_g h161 147 j = pw_g h157 147 j)).trans (by rw [← h157w]; exact pw_g_ne (by omega) : pw_g h157 147 j = pw_g h151 147 j)).trans (by rw [← h151w]; exact pw_g_ne (by omega) : pw_g h151 147 j = pw_g h115 147 j)).trans (by rw [← h115w]; exact pw_g_ne (by omega) : pw_g h115 147 j = pw_g h112 147 j)
                              have hl166 : ∀ j : Nat, pw_g h161 157 j = pw_g h115 157 j := fun j => (((by rw [← h161w]; exact pw_g_ne (by omega) : pw_g h161 157 j = pw_g h157 157 j)).trans (by rw [← h157w]; exact pw_g_ne (by omega) : pw_g h157 157 j = pw_g h151 157 j)).trans (by rw [← h151w]; exact pw_g_ne (by omega) : pw_g h151 157 j = pw_g h115 157 j)
                              have hl167 : ∀ j : Nat, pw_g h112 157 j = pw_g gh53 157 j := fun j => (pw_Eg (c := 157) I53 h112E rfl rfl j : pw_g h112 157 j = pw_g gh53 157 j)
                              have hw0 : pw_g h115 157 (ix.toNat) = pw_g h112 161 (Int.toNat 0) := by rw [← h115w]; exact pw_g_eqA h112I rfl (by omega) (by omega) (by omega)
                              have hw1 : ∀ j : Nat, j ≠ ix.toNat → pw_g h115 157 j = pw_g h112 157 j := fun j hj => by rw [← h115w]; exact pw_g_ne (fun q => hj q.2.symm)
                              have hkc : pw_KC gh53 h161 (5 + ix) (pw_g gh53 125 32) := ⟨fun j hj => ⟨(hl164 _).trans (hqkeep.1 j hj).1, (hl165 _).trans (hqkeep.1 j hj).2⟩, fun j hj => ⟨(hl164 _).trans (hqkeep.2 j hj).1, (hl165 _).trans (hqkeep.2 j hj).2⟩⟩
                              have cE : pw_E [146, 147, 157, 158, 159, 160] gh53 h161 := (((((h112E.wk (W' := [146, 147, 157, 158, 159, 160]) (by first | rfl | simp)).tr (h115E.wk (W' := [146, 147, 157, 158, 159, 160]) (by first | rfl | simp))).tr (h151E.wk (W' := [146, 147, 157, 158, 159, 160]) (by first | rfl | simp))).tr (h157E.wk (W' := [146, 147, 157, 158, 159, 160]) (by first | rfl | simp))).tr (h161E.wk (W' := [146, 147, 157, 158, 159, 160]) (by first | rfl | simp)))
                              have hk0 : K (pw_g gh53 125 7).toNat = 0 := by rw [← hx53_5.1]; first | assumption | omega
                              obtain ⟨-, th, C, N, hTI, hMW⟩ := hx53_6.resolve_right (fun q => by have := q.1; omega)
                              have hRe := hTI.en (by omega) hk0
                              rw [hRX] at hRe
                              exact ⟨h161I, h161F, (hp0.of hx53_3.1 hx53_3.2.1 hx53_3.2.2).wri (L := pw_g gh53 161 0) (by omega) (by omega) (hx53_2 (by omega)).1 (by omega) ((hl166 _).trans (hw0.trans (hl162 0))) (fun j hj => (hl166 j).trans ((hw1 j hj).trans (hl167 j))) hkc hl163, ⟨_, rfl, by omega, by omega, ⟨(pt_e2 cE rfl).trans hx53_7, fun q => absurd ⟨by omega, by omega⟩ q, fun _ _ => ⟨L, hsg, by rw [hRe]⟩⟩⟩⟩
                            · intro hc168
                              change ¬ ((0 : Int) ≤ pw_g h151 161 (Int.toNat 2)) at hc168
                              refine pw_bip E (pc' := 151) rfl rfl (by decide) ?_
                              refine pw_goto E (pc' := 160) rfl (by decide) ?_
                              refine pw_ast0 h151I E (c := 159) (pc' := 161) rfl rfl rfl (by decide) rfl (by decide) (by omega) (by omega) rfl (by omega) (by omega) (by omega) (by omega) rfl ?_
                              intro h169I h169E
                              generalize h169w : pw_w h151 159 (ix.toNat) (pw_i 11) = h169 at h169I h169E ⊢
                              have h169F := h151F.tr (h169E.wk (W' := [125, 127, 128, 129, 146, 147, 157, 158, 159, 160, 161, 1002]) (by first | rfl | simp))
                              have hl170 : ∀ j : Nat, pw_g h169 161 j = pw_g gh53 161 j := fun j => ((((by rw [← h169w]; exact pw_g_ne (by omega) : pw_g h169 161 j = pw_g h151 161 j)).trans (by rw [← h151w]; exact pw_g_ne (by omega) : pw_g h151 161 j = pw_g h115 161 j)).trans (by rw [← h115w]; exact pw_g_ne (by omega) : pw_g h115 161 j = pw_g h112 161 j)).trans (pw_Eg (c := 161) I53 h112E rfl rfl j : pw_g h112 161 j = pw_g gh53 161 j)
                              have hr171 : pw_g h169 161 (Int.toNat 3) ≤ 10 := by rw [hl170]; exact (hx53_2 (by omega)).2.2.2
                              refine pw_ld E (pc' := 162) (st' := [.ref 141]) rfl (fun _ => rfl) ?_
                              refine pw_getR (b := 176) h169I E (c := 125) (k := 49) (pc' := 165) rfl rfl rfl rfl rfl rfl rfl ?_
                              refine pw_ld E (pc' := 166) (st' := [pw_i ix, .ref 176]) rfl (fun _ => rfl) ?_
                              refine pw_ld E (pc' := 167) (st' := [.ref 141, pw_i ix, .ref 176]) rfl (fun _ => rfl) ?_
                              refine pw_getR (b := 177) h169I E (c := 125) (k := 50) (pc' := 170) rfl rfl rfl rfl rfl rfl rfl ?_
                              refine pw_ld E (pc' := 171) (st' := [pw_i 3, .ref 177, pw_i ix, .ref 176]) rfl (fun _ => rfl) ?_
                              refine pw_ald2 h169I E (c := 161) (pc' := 172) rfl rfl rfl (by decide) rfl (by decide) (by omega) (by omega) rfl (fun hf172a hf172b => ?_)
                              refine pw_ast0 h169I E (c := 160) (pc' := 173) rfl rfl rfl (by decide) rfl (by decide) (by omega) (by omega) rfl (by omega) (by omega) (by omega) (by omega) rfl ?_
                              intro h173I h173E
                              generalize h173w : pw_w h169 160 (ix.toNat) (pw_i (pw_g h169 161 (Int.toNat 3))) = h173 at h173I h173E ⊢
                              have h173F := h169F.tr (h173E.wk (W' := [125, 127, 128, 129, 146, 147, 157, 158, 159, 160, 161, 1002]) (by first | rfl | simp))
                              refine pw_ld E (pc' := 174) (st' := [pw_i 0]) rfl (fun _ => rfl) ?_
                              refine pw_iret E rfl ?_
                              have hl174 : ∀ j : Nat, pw_g h112 161 j = pw_g gh53 161 j := fun j => (pw_Eg (c := 161) I53 h112E rfl rfl j : pw_g h112 161 j = pw_g gh53 161 j)
                              have hl175 : ∀ j : Nat, pw_g h173 145 j = pw_g gh53 145 j := fun j => (((((by rw [← h173w]; exact pw_g_ne (by omega) : pw_g h173 145 j = pw_g h169 145 j)).trans (by rw [← h169w]; exact pw_g_ne (by omega) : pw_g h169 145 j = pw_g h151 145 j)).trans (by rw [← h151w]; exact pw_g_ne (by omega) : pw_g h151 145 j = pw_g h115 145 j)).trans (by rw [← h115w]; exact pw_g_ne (by omega) : pw_g h115 145 j = pw_g h112 145 j)).trans (pw_Eg (c := 145) I53 h112E rfl rfl j : pw_g h112 145 j = pw_g gh53 145 j)
                              have hl176 : ∀ j : Nat, pw_g h173 146 j = pw_g h112 146 j := fun j => ((((by rw [← h173w]; exact pw_g_ne (by omega) : pw_g h173 146 j = pw_g h169 146 j)).trans (by rw [← h169w]; exact pw_g_ne (by omega) : pw_g h169 146 j = pw_g h151 146 j)).trans (by rw [← h151w]; exact pw_g_ne (by omega) : pw_g h151 146 j = pw_g h115 146 j)).trans (by rw [← h115w]; exact pw_g_ne (by omega) : pw_g h115 146 j = pw_g h112 146 j)
                              have hl177 : ∀ j : Nat, pw_g h173 147 j = pw_g h112 147 j := fun j => ((((by rw [← h173w]; exact pw_g_ne (by omega) : pw_g h173 147 j = pw_g h169 147 j)).trans (by rw [← h169w]; exact pw_g_ne (by omega) : pw_g h169 147 j = pw_g h151 147 j)).trans (by rw [← h151w]; exact pw_g_ne (by omega) : pw_g h151 147 j = pw_g h115 147 j)).trans (by rw [← h115w]; exact pw_g_ne (by omega) : pw_g h115 147 j = pw_g h112 147 j)
                              have hl178 : ∀ j : Nat, pw_g h173 157 j = pw_g h115 157 j := fun j => (((by rw [← h173w]; exact pw_g_ne (by omega) : pw_g h173 157 j = pw_g h169 157 j)).trans (by rw [← h169w]; exact pw_g_ne (by omega) : pw_g h169 157 j = pw_g h151 157 j)).trans (by rw [← h151w]; exact pw_g_ne (by omega) : pw_g h151 157 j = pw_g h115 157 j)
                              have hl179 : ∀ j : Nat, pw_g h112 157 j = pw_g gh53 157 j := fun j => (pw_Eg (c := 157) I53 h112E rfl rfl j : pw_g h112 157 j = pw_g gh53 157 j)
                              have hw0 : pw_g h115 157 (ix.toNat) = pw_g h112 161 (Int.toNat 0) := by rw [← h115w]; exact pw_g_eqA h112I rfl (by omega) (by omega) (by omega)
                              have hw1 : ∀ j : Nat, j ≠ ix.toNat → pw_g h115 157 j = pw_g h112 157 j := fun j hj => by rw [← h115w]; exact pw_g_ne (fun q => hj q.2.symm)
                              have hkc : pw_KC gh53 h173 (5 + ix) (pw_g gh53 125 32) := ⟨fun j hj => ⟨(hl176 _).trans (hqkeep.1 j hj).1, (hl177 _).trans (hqkeep.1 j hj).2⟩, fun j hj => ⟨(hl176 _).trans (hqkeep.2 j hj).1, (hl177 _).trans (hqkeep.2 j hj).2⟩⟩
                              have cE : pw_E [146, 147, 157, 158, 159, 160] gh53 h173 := (((((h112E.wk (W' := [146, 147, 157, 158, 159, 160]) (by first | rfl | simp)).tr (h115E.wk (W' := [146, 147, 157, 158, 159, 160]) (by first | rfl | simp))).tr (h151E.wk (W' := [146, 147, 157, 158, 159, 160]) (by first | rfl | simp))).tr (h169E.wk (W' := [146, 147, 157, 158, 159, 160]) (by first | rfl | simp))).tr (h173E.wk (W' := [146, 147, 157, 158, 159, 160]) (by first | rfl | simp)))
                              have hk0 : K (pw_g gh53 125 7).toNat = 0 := by rw [← hx53_5.1]; first | assumption | omega
                              obtain ⟨-, th, C, N, hTI, hMW⟩ := hx53_6.resolve_right (fun q => by have := q.1; omega)
                              have hRe := hTI.en (by omega) hk0
                              rw [hRX] at hRe
                              exact ⟨h173I, h173F, (hp0.of hx53_3.1 hx53_3.2.1 hx53_3.2.2).wri (L := pw_g gh53 161 0) (by omega) (by omega) (hx53_2 (by omega)).1 (by omega) ((hl178 _).trans (hw0.trans (hl174 0))) (fun j hj => (hl178 j).trans ((hw1 j hj).trans (hl179 j))) hkc hl175, ⟨_, rfl, by omega, by omega, ⟨(pt_e2 cE rfl).trans hx53_7, fun q => absurd ⟨by omega, by omega⟩ q, fun _ _ => ⟨L, hsg, by rw [hRe]⟩⟩⟩⟩
                        · intro hc180
                          change ¬ (pw_g gh53 125 8 ≤ (0 : Int)) at hc180
                          exfalso; omega
                      · intro hc181
                        change ¬ (pw_g gh53 127 ((pw_g gh53 125 7).toNat) = (0 : Int)) at hc181
                        have hA53 : pw_g gh53 125 7 ≤ n ∧ 0 ≤ pw_g gh53 125 8 ∧ 0 ≤ pw_g gh53 125 7 ∧ 0 ≤ pw_g gh53 125 32 := hx53_0.2.2
                        have hn1 : n ≤ 1000 := hx53_0.1
                        refine pw_ld E (pc' := 73) (st' := [.ref 141]) rfl (fun _ => rfl) ?_
                        have hk0 : K (pw_g gh53 125 7).toNat ≠ 0 := by rw [← hx53_5.1]; first | assumption | omega
                        obtain ⟨-, th, C, N, hTI, hMW⟩ := hx53_6.resolve_right (fun q => by have := q.1; omega)
                        obtain ⟨f182l, f182h, -⟩ := pw_obj (c := 125) I53 rfl
                        refine pw_call (m' := 279) (As := [.ref 141]) (rest := []) (ls'' := [some (.ref 141), none, none]) (Nat.le_trans (by decide) hd) E rfl (fun _ => pw_iV rfl rfl rfl rfl (pw_cellI f182h rfl)) (rfl : pm_ent 279 = some (1, 3, 12, 4, pmc_279)) rfl rfl (pw_and (cm_279 (pw_dp hd (by decide)) I53 hx53_0 (by omega) hx53_4 hx53_2) (cm_279_t (by omega) I53 n K V P th C N hx53_0 (by omega) hx53_5 hnv (by omega) hk0 hMW)) ?_
                        rintro h183 v184 ⟨⟨h183I, h183E, ⟨rA, rQ, rL⟩, rfl⟩, ⟨-, -, ⟨rT, rX⟩, -⟩⟩
                        refine ⟨_, rfl, ?_⟩
                        have h183F := E53.tr (h183E.wk (W' := [125, 127, 128, 129, 146, 147, 157, 158, 159, 160, 161, 1002]) (by first | rfl | simp))
                        have rf : pw_g h183 125 7 ≤ n ∧ 0 ≤ pw_g h183 125 8 ∧ 0 ≤ pw_g h183 125 7 ∧ 0 ≤ pw_g h183 125 32 := rA.2.2
                        have rq : pw_g gh53 125 7 - pw_g gh53 125 32 + 0 ≤ pw_g h183 125 7 - pw_g h183 125 32 ∧ pw_g gh53 125 7 ≤ pw_g h183 125 7 := ⟨rQ.2.2.2.1, rQ.2.1⟩
                        have rp : pw_g h183 125 8 = 0 → pw_g gh53 125 7 < pw_g h183 125 7 := fun q => (rL q).2
                        have rV : pw_NV n h183 := pw_NV.E I53 h183E hx53_4 rfl
                        have rO : pw_O gh53 h183 := pw_O.q (by omega) rQ (fun j _ => pw_Eg (c := 145) I53 h183E rfl rfl j) (pw_Eg (c := 157) I53 h183E rfl rfl)
                        have r2 : pw_g h183 125 2 = 0 := (pt_e2 h183E rfl).trans hx53_7
                        have hst := hTI.st (by omega) hk0
                        have rR : pt_RW K V P n R h183 := by
                          rcases rX with ⟨q, e⟩ | ⟨q, e, e7, m⟩
                          · exact Or.inr ⟨q, by rw [hst.1 (by rw [e]; exact q)]; exact e⟩
                          · have hs2 := hst.2 e (by rw [← e7]; exact rp q)
                            rw [← e7] at hs2
                            exact Or.inl ⟨q, _, _, _, hs2, m⟩
                        clear rX hst
                        show pw X d h183 277 76 [some (.ref 141), some (pw_i ix), some (pw_i ((((0 + 1) + 1) + 1) + 1))] [] _
                        refine pw_goto E (pc' := 53) rfl (by decide) ?_
                        exact ih53 _ (by omega)  h183 h183I h183F  rA (by omega) (fun q => (rL q).1) (hx53_3.tr rO) rV rT rR r2 rfl
                have he185 : pw_g h23 125 7 = pw_g h20 125 7 := by rw [← h23w]; exact pw_g_ne (by omega)
                have he186 : pw_g h20 125 7 = pw_g h17 125 7 := by rw [← h20w]; exact pw_g_ne (by omega)
                have he187 : pw_g h17 125 7 = pw_g h14 125 7 := by rw [← h17w]; exact pw_g_ne (by omega)
                have he188 : pw_g h14 125 7 = pw_g h11 125 7 := by rw [← h14w]; exact pw_g_ne (by omega)
                have he189 : pw_g h11 125 7 = pw_g h10 125 7 := by rw [← h11w]; exact pw_g_ne (by omega)
                have he190 : pw_g h10 125 7 = pw_g h8 125 7 := by rw [← h10w]; exact pw_g_ne (by omega)
                have he191 : pw_g h23 125 8 = pw_g h20 125 8 := by rw [← h23w]; exact pw_g_ne (by omega)
                have he192 : pw_g h20 125 8 = pw_g h17 125 8 := by rw [← h20w]; exact pw_g_ne (by omega)
                have he193 : pw_g h17 125 8 = pw_g h14 125 8 := by rw [← h17w]; exact pw_g_ne (by omega)
                have he194 : pw_g h14 125 8 = pw_g h11 125 8 := by rw [← h14w]; exact pw_g_ne (by omega)
                have he195 : pw_g h11 125 8 = pw_g h10 125 8 := by rw [← h11w]; exact pw_g_ne (by omega)
                have he196 : pw_g h10 125 8 = pw_g h8 125 8 := by rw [← h10w]; exact pw_g_ne (by omega)
                have he197 : pw_g h23 125 32 = pw_g h20 125 32 := by rw [← h23w]; exact pw_g_ne (by omega)
                have he198 : pw_g h20 125 32 = pw_g h17 125 32 := by rw [← h20w]; exact pw_g_ne (by omega)
                have he199 : pw_g h17 125 32 = pw_g h14 125 32 := by rw [← h17w]; exact pw_g_ne (by omega)
                have he200 : pw_g h14 125 32 = pw_g h11 125 32 := by rw [← h14w]; exact pw_g_ne (by omega)
                have he201 : pw_g h11 125 32 = pw_g h10 125 32 := by rw [← h11w]; exact pw_g_ne (by omega)
                have he202 : pw_g h10 125 32 = 0 := by rw [← h10w]; exact pw_g_eq (c := 125) (k := 32) h8I rfl rfl (by omega) (by omega)
                exact L53 _  h23 h23I h23F  bA (by omega) (fun _ => bL) bO bV bT bR b2 rfl
              · intro hc203
                change ¬ ((4 : Int) ≤ (((0 + 1) + 1) + 1) + 1) at hc203
                exfalso; omega
    · intro hc204
      change ¬ (x4 ≠ (0 : Int)) at hc204
      exfalso; omega
  · skip
    refine pw_if E (pc' := 19) rfl (by decide) (by omega) (by omega) ?_ ?_
    · intro hc206
      change x4 ≠ (0 : Int) at hc206
      exfalso; omega
    · intro hc207
      change ¬ (x4 ≠ (0 : Int)) at hc207
      refine pw_ld E (pc' := 13) (st' := [.ref 141]) rfl (fun _ => rfl) ?_
      refine pw_ld E (pc' := 14) (st' := [pw_i 0, .ref 141]) rfl (fun _ => rfl) ?_
      refine pw_putP h1I E (k := 2) (pc' := 17) rfl rfl rfl rfl (by omega) (by omega) (by omega) (by omega) rfl rfl ?_
      intro h208I h208E
      generalize h208w : pw_w h1 125 2 (pw_i 0) = h208 at h208I h208E ⊢
      have h208F := h1F.tr (h208E.wk (W' := [125, 127, 128, 129, 146, 147, 157, 158, 159, 160, 161, 1002]) (by first | rfl | simp))
      refine pw_ld E (pc' := 18) (st' := [pw_i ((-1))]) rfl (fun _ => rfl) ?_
      refine pw_iret E rfl ?_
      have hl209 : ∀ j : Nat, pw_g h208 145 j = pw_g h 145 j := fun j => ((by rw [← h208w]; exact pw_g_ne (by omega) : pw_g h208 145 j = pw_g h1 145 j)).trans (by rw [← h1w]; exact pw_g_ne (by omega) : pw_g h1 145 j = pw_g h 145 j)
      have hl210 : ∀ j : Nat, pw_g h208 146 j = pw_g h 146 j := fun j => ((by rw [← h208w]; exact pw_g_ne (by omega) : pw_g h208 146 j = pw_g h1 146 j)).trans (by rw [← h1w]; exact pw_g_ne (by omega) : pw_g h1 146 j = pw_g h 146 j)
      have hl211 : ∀ j : Nat, pw_g h208 147 j = pw_g h 147 j := fun j => ((by rw [← h208w]; exact pw_g_ne (by omega) : pw_g h208 147 j = pw_g h1 147 j)).trans (by rw [← h1w]; exact pw_g_ne (by omega) : pw_g h1 147 j = pw_g h 147 j)
      have hl212 : ∀ j : Nat, pw_g h208 157 j = pw_g h 157 j := fun j => ((by rw [← h208w]; exact pw_g_ne (by omega) : pw_g h208 157 j = pw_g h1 157 j)).trans (by rw [← h1w]; exact pw_g_ne (by omega) : pw_g h1 157 j = pw_g h 157 j)
      have ht2 : pw_g h208 125 2 = 0 := by rw [← h208w]; exact pw_g_eq (c := 125) (k := 2) h1I rfl rfl (by omega) (by omega)
      exact ⟨h208I, h208F, hp0.cg hl209 hl210 hl211 hl212, ⟨_, rfl, by omega, by omega, ⟨ht2, fun _ => rfl, fun q1 q2 => by exfalso; omega⟩⟩⟩
end
section
/-! texts: what waits and the code as the class has them -/
/-- the first n of a row, the last first -/
def px_st (w : Nat → Int) : Nat → List Int
  | 0 => []
  | k + 1 => w k :: px_st w k
theorem px_st_len {w : Nat → Int} (n : Nat) : (px_st w n).length = n := by
  induction n with
  | zero => rfl
  | succ n ih => show (px_st w n).length + 1 = n + 1; rw [ih]
theorem px_st_cg {w w' : Nat → Int} : ∀ n : Nat, (∀ j : Nat, j < n → w' j = w j) → px_st w' n = px_st w n := by
  intro n
  induction n with
  | zero => intro _; rfl
  | succ n ih =>
    intro H
    show w' n :: px_st w' n = w n :: px_st w n
    rw [H n (Nat.lt_succ_self n), ih (fun j hj => H j (by omega))]
def px_S (c : Nat) (h : pm_H) : List Int := px_st (pw_g h (c + 1)) (pw_g h c 4).toNat
def px_C (h : pm_H) (st : Int) : List Int := px_st (fun j => pw_g h 36 (st.toNat + j)) (pw_g h 30 1 - st).toNat
theorem px_S0 {c : Nat} {h : pm_H} (h0 : pw_g h c 4 ≤ 0) : px_S c h = [] := by
  unfold px_S
  rw [show (pw_g h c 4).toNat = 0 by omega]
  rfl
theorem px_S1 {c : Nat} {h : pm_H} (h0 : 0 < pw_g h c 4) : px_S c h = pw_g h (c + 1) (pw_g h c 4 - 1).toNat :: px_st (pw_g h (c + 1)) (pw_g h c 4 - 1).toNat := by
  unfold px_S
  rw [show (pw_g h c 4).toNat = (pw_g h c 4 - 1).toNat + 1 by omega]
  rfl
/-- one off the top -/
theorem px_S.pop {c : Nat} {h h' : pm_H} {S : List Int} {x : Int} (h0 : 0 < pw_g h c 4) (e : pw_g h' c 4 = pw_g h c 4 - 1) (w : ∀ j : Nat, pw_g h' (c + 1) j = pw_g h (c + 1) j) (hS : px_S c h = x :: S) : px_S c h' = S := by
  rw [px_S1 h0] at hS
  unfold px_S
  rw [e, px_st_cg _ (fun j _ => w j)]
  exact (List.cons.inj hS).2
theorem px_S.push {c : Nat} {h h' : pm_H} {x : Int} (h0 : 0 ≤ pw_g h c 4) (e : pw_g h' c 4 = pw_g h c 4 + 1) (hx : pw_g h' (c + 1) (pw_g h c 4).toNat = x) (w : ∀ j : Nat, j ≠ (pw_g h c 4).toNat → pw_g h' (c + 1) j = pw_g h (c + 1) j) : px_S c h' = x :: px_S c h := by
  unfold px_S
  rw [e, show (pw_g h c 4 + 1).toNat = (pw_g h c 4).toNat + 1 by omega]
  show pw_g h' (c + 1) (pw_g h c 4).toNat :: px_st (pw_g h' (c + 1)) (pw_g h c 4).toNat = _
  rw [hx, px_st_cg _ (fun j hj => w j (by omega))]
theorem px_S.eq {c : Nat} {h h' : pm_H} (e : pw_g h' c 4 = pw_g h c 4) (w : ∀ j : Nat, pw_g h' (c + 1) j = pw_g h (c + 1) j) : px_S c h' = px_S c h := by
  unfold px_S
  rw [e]
  exact px_st_cg _ (fun j _ => w j)
/-- a word more in the draft -/
def px_EM (h h' : pm_H) (li wd : Int) : Prop := pw_g h' 30 1 = pw_g h 30 1 + 1 ∧ pw_g h' 36 (pw_g h 30 1).toNat = wd ∧ (∀ j : Nat, j ≠ (pw_g h 30 1).toNat → pw_g h' 36 j = pw_g h 36 j) ∧ pw_g h' 33 li.toNat = pw_g h 30 1 + 1 ∧ ∀ j : Nat, j ≠ li.toNat → pw_g h' 33 j = pw_g h 33 j
theorem px_C.em {h h' : pm_H} {li wd st : Int} (m : px_EM h h' li wd) (h0 : 0 ≤ st) (h1 : st ≤ pw_g h 30 1) : px_C h' st = wd :: px_C h st := by
  obtain ⟨m1, m2, m3, -, -⟩ := m
  unfold px_C
  rw [show (pw_g h' 30 1 - st).toNat = (pw_g h 30 1 - st).toNat + 1 by omega]
  show pw_g h' 36 (st.toNat + (pw_g h 30 1 - st).toNat) :: px_st (fun j => pw_g h' 36 (st.toNat + j)) (pw_g h 30 1 - st).toNat = _
  rw [show st.toNat + (pw_g h 30 1 - st).toNat = (pw_g h 30 1).toNat by omega, m2, px_st_cg _ (fun j hj => m3 _ (by omega))]
theorem px_C.eq {h h' : pm_H} {st : Int} (e : pw_g h' 30 1 = pw_g h 30 1) (w : ∀ j : Nat, pw_g h' 36 j = pw_g h 36 j) : px_C h' st = px_C h st := by
  unfold px_C
  rw [e]
  exact px_st_cg _ (fun j _ => w _)
/-- what the draft keeps while a line's code grows: what stood, the other lines; the line ends where the code does -/
def px_B (c : Nat) (h h' : pm_H) : Prop := pw_g h 30 1 ≤ pw_g h' 30 1 ∧ (∀ j : Nat, (j : Int) < pw_g h 30 1 → pw_g h' 36 j = pw_g h 36 j) ∧ pw_g h' 33 (pw_g h c 8).toNat = pw_g h' 30 1 ∧ ∀ j : Nat, j ≠ (pw_g h c 8).toNat → pw_g h' 33 j = pw_g h 33 j
theorem px_B.rf {c : Nat} {h : pm_H} (e : pw_g h 33 (pw_g h c 8).toNat = pw_g h 30 1) : px_B c h h := ⟨Int.le_refl _, fun _ _ => rfl, e, fun _ _ => rfl⟩
theorem px_B.tr {c : Nat} {h g g' : pm_H} (H : px_B c h g) (e8 : pw_g g c 8 = pw_g h c 8) (G : px_B c g g') : px_B c h g' := by
  obtain ⟨a1, a2, a3, a4⟩ := H
  obtain ⟨b1, b2, b3, b4⟩ := G
  rw [e8] at b3 b4
  exact ⟨by omega, fun j hj => (b2 j (by omega)).trans (a2 j hj), b3, fun j hj => (b4 j hj).trans (a4 j hj)⟩
theorem px_B.em {c : Nat} {h g g' : pm_H} {wd : Int} (H : px_B c h g) (e8 : pw_g g c 8 = pw_g h c 8) (m : px_EM g g' (pw_g g c 8) wd) : px_B c h g' := by
  obtain ⟨a1, a2, a3, a4⟩ := H
  obtain ⟨m1, m2, m3, m4, m5⟩ := m
  rw [e8] at m4 m5
  exact ⟨by omega, fun j hj => (m3 j (by omega)).trans (a2 j hj), by omega, fun j hj => (m5 j hj).trans (a4 j hj)⟩
theorem px_B.eq {c : Nat} {h g g' : pm_H} (H : px_B c h g) (e1 : pw_g g' 30 1 = pw_g g 30 1) (e6 : ∀ j : Nat, pw_g g' 36 j = pw_g g 36 j) (e3 : ∀ j : Nat, pw_g g' 33 j = pw_g g 33 j) : px_B c h g' := by
  obtain ⟨a1, a2, a3, a4⟩ := H
  exact ⟨by omega, fun j hj => (e6 j).trans (a2 j hj), by rw [e3, e1]; exact a3, fun j hj => (e3 j).trans (a4 j hj)⟩
/-- how deep, how many brackets; what may wait -/
def px_dc : List Int → Int
  | [] => 0
  | x :: S => px_dc S + (if x = 8 ∨ x = 9 then 1 else 0)
def px_oc : List Int → Int
  | [] => 0
  | x :: S => px_oc S + (if x = 9 then 1 else 0)
def px_wf : List Int → Prop
  | [] => True
  | x :: S => 1 ≤ x ∧ x ≤ 9 ∧ (x < 8 → pt_n8 S ∧ pt_tr S < pt_rk x) ∧ px_wf S
theorem px_dcB : ∀ S : List Int, 0 ≤ px_oc S ∧ px_oc S ≤ px_dc S := by
  intro S
  induction S with
  | nil => exact ⟨Int.le_refl _, Int.le_refl _⟩
  | cons x S ih =>
    have e1 : px_dc (x :: S) = px_dc S + (if x = 8 ∨ x = 9 then 1 else 0) := rfl
    have e2 : px_oc (x :: S) = px_oc S + (if x = 9 then 1 else 0) := rfl
    rw [e1, e2]
    by_cases q : x = 9
    · rw [if_pos (Or.inr q), if_pos q]; omega
    · rw [if_neg q]
      split <;> omega
theorem px_rk_sm {x : Int} (h : 1 ≤ pt_rk x) : x ≠ 8 ∧ x ≠ 9 := by
  refine ⟨fun q => ?_, fun q => ?_⟩
  · rw [q] at h; exact absurd h (by decide)
  · rw [q] at h; exact absurd h (by decide)
theorem px_rk_0 {x : Int} (h1 : 1 ≤ x) (h9 : x ≤ 9) (h : pt_rk x < 1) : x = 8 ∨ x = 9 := by
  rcases (by omega : x = 1 ∨ x = 2 ∨ x = 3 ∨ x = 4 ∨ x = 5 ∨ x = 6 ∨ x = 7 ∨ x = 8 ∨ x = 9) with q | q | q | q | q | q | q | q | q
  all_goals first | exact Or.inl q | exact Or.inr q | (rw [q] at h; exact absurd h (by decide))
theorem px_rlW {r : Int} (hr : 1 ≤ r) : ∀ (S c : List Int), px_dc (pt_rl r S c).1 = px_dc S ∧ px_oc (pt_rl r S c).1 = px_oc S ∧ (px_wf S → px_wf (pt_rl r S c).1 ∧ (pt_n8 S → pt_n8 (pt_rl r S c).1)) := by
  intro S
  induction S with
  | nil => intro c; exact ⟨rfl, rfl, fun _ => ⟨trivial, fun _ => trivial⟩⟩
  | cons x S ih =>
    intro c
    by_cases q : r ≤ pt_rk x
    · obtain ⟨i1, i2, i3⟩ := ih (-x :: c)
      obtain ⟨n8, n9⟩ := px_rk_sm (x := x) (by omega)
      have e1 : px_dc (x :: S) = px_dc S + (if x = 8 ∨ x = 9 then 1 else 0) := rfl
      have e2 : px_oc (x :: S) = px_oc S + (if x = 9 then 1 else 0) := rfl
      rw [pt_rl_ge q, e1, e2, if_neg (fun z => z.elim n8 n9), if_neg n9, i1, i2]
      exact ⟨by omega, by omega, fun w => ⟨(i3 w.2.2.2).1, fun _ => (i3 w.2.2.2).2 (w.2.2.1 (by have := w.2.1; omega)).1⟩⟩
    · have e : pt_rl r (x :: S) c = (x :: S, c) := if_neg q
      rw [e]
      exact ⟨rfl, rfl, fun w => ⟨w, fun z => z⟩⟩
theorem px_rlT {r : Int} : ∀ (S c : List Int), pt_tr (pt_rl r S c).1 < r ∨ (pt_rl r S c).1 = [] := by
  intro S
  induction S with
  | nil => intro c; exact Or.inr rfl
  | cons x S ih =>
    intro c
    by_cases q : r ≤ pt_rk x
    · rw [pt_rl_ge q]; exact ih _
    · have e : pt_rl r (x :: S) c = (x :: S, c) := if_neg q
      rw [e]
      exact Or.inl (by show pt_rk x < r; omega)
theorem px_epW : ∀ (S : List Int) (d : Int) (c : List Int), d = px_dc S → px_wf S → (pt_ep S d c).2.1 = px_dc (pt_ep S d c).1 ∧ px_oc (pt_ep S d c).1 = px_oc S ∧ px_wf (pt_ep S d c).1 ∧ (pt_ep S d c).2.1 ≤ d ∧ pt_n8 (pt_ep S d c).1 := by
  intro S
  induction S with
  | nil => intro d c h _; exact ⟨h, rfl, trivial, Int.le_refl _, trivial⟩
  | cons x S ih =>
    intro d c h w
    by_cases q : x = 8
    · have e : pt_ep (x :: S) d c = pt_ep S (d - 1) (-8 :: c) := if_pos q
      have e1 : px_dc (x :: S) = px_dc S + (if x = 8 ∨ x = 9 then 1 else 0) := rfl
      have e2 : px_oc (x :: S) = px_oc S + (if x = 9 then 1 else 0) := rfl
      rw [if_pos (Or.inl q)] at e1
      rw [if_neg (by omega)] at e2
      obtain ⟨i1, i2, i3, i4, i5⟩ := ih (d - 1) (-8 :: c) (by omega) w.2.2.2
      rw [e]
      exact ⟨i1, by omega, i3, by omega, i5⟩
    · have e : pt_ep (x :: S) d c = (x :: S, d, c) := if_neg q
      rw [e]
      exact ⟨h, rfl, w, Int.le_refl _, q⟩
/-- behind a closing bracket's release an open one is on top -/
theorem px_clT {S c : List Int} (w : px_wf S) (n : pt_n8 S) (ho : 0 < px_oc S) : ∃ T, (pt_rl 1 S c).1 = 9 :: T ∧ px_dc T = px_dc S - 1 ∧ px_oc T = px_oc S - 1 ∧ px_wf T := by
  obtain ⟨a1, a2, a3⟩ := px_rlW (r := 1) (Int.le_refl _) S c
  have t := px_rlT (r := 1) S c
  cases e : (pt_rl 1 S c).1 with
  | nil =>
    rw [e] at a2
    have : px_oc [] = 0 := rfl
    omega
  | cons x T =>
    rw [e] at a1 a2 a3 t
    obtain ⟨w2, n2⟩ := a3 w
    have hx := px_rk_0 w2.1 w2.2.1 (by
      rcases t with t | t
      · exact t
      · exact absurd t (List.cons_ne_nil _ _))
    have h9 : x = 9 := hx.resolve_left (n2 n)
    have e1 : px_dc (x :: T) = px_dc T + (if x = 8 ∨ x = 9 then 1 else 0) := rfl
    have e2 : px_oc (x :: T) = px_oc T + (if x = 9 then 1 else 0) := rfl
    rw [if_pos hx] at e1
    rw [if_pos h9] at e2
    exact ⟨T, by rw [h9], by omega, by omega, w2.2.2.2⟩
theorem px_rkE {x : Int} (h0 : 0 ≤ x) (h9 : x ≤ 9) : pw_rk x = pt_rk x := by
  rcases (by omega : x = 0 ∨ x = 1 ∨ x = 2 ∨ x = 3 ∨ x = 4 ∨ x = 5 ∨ x = 6 ∨ x = 7 ∨ x = 8 ∨ x = 9) with q | q | q | q | q | q | q | q | q | q <;> rw [q] <;> decide
/-- pushed -/
def px_PU (c : Nat) (h h' : pm_H) (x : Int) : Prop := pw_g h' c 4 = pw_g h c 4 + 1 ∧ pw_g h' (c + 1) (pw_g h c 4).toNat = x ∧ (∀ j : Nat, j ≠ (pw_g h c 4).toNat → pw_g h' (c + 1) j = pw_g h (c + 1) j) ∧ ∀ k : Nat, k ≠ 4 → pw_g h' c k = pw_g h c k
/-- released -/
def px_RL (c : Nat) (st rk : Int) (h h' : pm_H) : Prop := pt_rl rk (px_S c h) (px_C h st) = (px_S c h', px_C h' st) ∧ pw_g h' 30 1 + pw_g h' c 4 = pw_g h 30 1 + pw_g h c 4 ∧ px_B c h h' ∧ ∀ k : Nat, k ≠ 4 → pw_g h' c k = pw_g h c k
/-- a part ended -/
def px_EP (c : Nat) (st : Int) (h h' : pm_H) : Prop := pt_ep (px_S c h) (pw_g h c 5) (px_C h st) = (px_S c h', pw_g h' c 5, px_C h' st) ∧ pw_g h' 30 1 + pw_g h' c 4 = pw_g h 30 1 + pw_g h c 4 ∧ px_B c h h' ∧ pw_g h' c 7 = 3 ∧ ∀ k : Nat, k ≠ 4 → k ≠ 5 → k ≠ 7 → pw_g h' c k = pw_g h c k
theorem px_loopR {c : Nat} {rk : Int} {h : pm_H} {st : Int} (h0 : pw_g h c 4 ≤ 0 ∨ pt_tr (px_S c h) < rk) : pt_rl rk (px_S c h) (px_C h st) = (px_S c h, px_C h st) := by
  rcases h0 with q | q
  · rw [px_S0 q]; rfl
  · exact pt_rl_lt q
end
section
/-! the class's Readers, exactly -/
set_option maxHeartbeats 4000000 in
theorem cm_71_x {X : List (Nat × List Value)} {d : Nat} {h : pm_H} (hd : 1 ≤ d) (I : pw_I h) (li : Int) (hli1 : 0 ≤ li) (hli2 : li ≤ 3) (wd : Int) (hwd1 : (-2147483648) ≤ wd) (hwd2 : wd ≤ 2147483647) (hp0 : pw_g h 30 1 ≤ 999) : pw X d h 71 0 [some (.ref 46), some (pw_i li), some (pw_i wd)] [] (fun h' v => pw_I h' ∧ pw_E [30, 33, 36] h h' ∧ (px_EM h h' li wd) ∧ (v = .inl none)) := by
  have E : pm_ent 71 = some (3, 3, 7, 4, pmc_71) := rfl
  have E0 : pw_E [30, 33, 36] h h := pw_E.rf _ _
  refine pw_ld E (pc' := 1) (st' := [.ref 46]) rfl (fun _ => rfl) ?_
  refine pw_getI2 I E (c := 30) (k := 1) (pc' := 4) rfl rfl rfl rfl rfl rfl (fun hf1a hf1b => ?_)
  refine pw_ld E (pc' := 5) (st' := [.ref 46, pw_i (pw_g h 30 1)]) rfl (fun _ => rfl) ?_
  refine pw_getR (b := 52) I E (c := 30) (k := 0) (pc' := 8) rfl rfl rfl rfl rfl rfl rfl ?_
  obtain ⟨z2l, z2h, z2n, -⟩ := pw_arr (c := 36) I rfl
  refine pw_alen E (pc' := 9) rfl (pw_rowI z2h rfl) rfl rfl ?_
  rw [z2n]
  refine pw_if2 E (pc' := 42) rfl (by decide) (by omega) (by omega) (by decide) (by decide) ?_ ?_
  · intro hc3
    change (1000 : Nat) ≤ pw_g h 30 1 at hc3
    exfalso; omega
  · intro hc4
    change ¬ ((1000 : Nat) ≤ pw_g h 30 1) at hc4
    refine pw_ld E (pc' := 13) (st' := [.ref 46]) rfl (fun _ => rfl) ?_
    refine pw_getR (b := 52) I E (c := 30) (k := 0) (pc' := 16) rfl rfl rfl rfl rfl rfl rfl ?_
    refine pw_ld E (pc' := 17) (st' := [.ref 46, .ref 52]) rfl (fun _ => rfl) ?_
    refine pw_getI2 I E (c := 30) (k := 1) (pc' := 20) rfl rfl rfl rfl rfl rfl (fun hf5a hf5b => ?_)
    refine pw_ld E (pc' := 21) (st' := [pw_i wd, pw_i (pw_g h 30 1), .ref 52]) rfl (fun _ => rfl) ?_
    refine pw_ast0 I E (c := 36) (pc' := 22) rfl rfl rfl (by decide) rfl (by decide) (by omega) (by omega) rfl (by omega) (by omega) (by omega) (by omega) rfl ?_
    intro h6I h6E
    generalize h6w : pw_w h 36 ((pw_g h 30 1).toNat) (pw_i wd) = h6 at h6I h6E ⊢
    have h6F := E0.tr (h6E.wk (W' := [30, 33, 36]) (by first | rfl | simp))
    refine pw_ld E (pc' := 23) (st' := [.ref 46]) rfl (fun _ => rfl) ?_
    refine pw_ld E (pc' := 24) (st' := [.ref 46, .ref 46]) rfl (fun _ => rfl) ?_
    have he8 : pw_g h6 30 1 = pw_g h 30 1 := by rw [← h6w]; exact pw_g_ne (by omega)
    refine pw_getI2 h6I E (c := 30) (k := 1) (pc' := 27) rfl rfl rfl rfl rfl rfl (fun hf7a hf7b => ?_)
    refine pw_ld E (pc' := 28) (st' := [pw_i 1, pw_i (pw_g h6 30 1), .ref 46]) rfl (fun _ => rfl) ?_
    refine pw_add E (pc' := 29) rfl rfl ?_
    refine pw_putI h6I E (c := 30) (k := 1) (pc' := 32) rfl rfl rfl rfl (by omega) (by omega) (by omega) (by omega) rfl rfl ?_
    intro h9I h9E
    generalize h9w : pw_w h6 30 1 (pw_i ((pw_g h6 30 1) + 1)) = h9 at h9I h9E ⊢
    have h9F := h6F.tr (h9E.wk (W' := [30, 33, 36]) (by first | rfl | simp))
    refine pw_ld E (pc' := 33) (st' := [.ref 46]) rfl (fun _ => rfl) ?_
    refine pw_getR (b := 49) h9I E (c := 30) (k := 4) (pc' := 36) rfl rfl rfl rfl rfl rfl rfl ?_
    refine pw_ld E (pc' := 37) (st' := [pw_i li, .ref 49]) rfl (fun _ => rfl) ?_
    refine pw_ld E (pc' := 38) (st' := [.ref 46, pw_i li, .ref 49]) rfl (fun _ => rfl) ?_
    have he11 : pw_g h9 30 1 = (pw_g h6 30 1) + 1 := by rw [← h9w]; exact pw_g_eq (c := 30) (k := 1) h6I rfl rfl (by omega) (by omega)
    refine pw_getI2 h9I E (c := 30) (k := 1) (pc' := 41) rfl rfl rfl rfl rfl rfl (fun hf10a hf10b => ?_)
    refine pw_ast0 h9I E (c := 33) (pc' := 42) rfl rfl rfl (by decide) rfl (by decide) (by omega) (by omega) rfl (by omega) (by omega) (by omega) (by omega) rfl ?_
    intro h12I h12E
    generalize h12w : pw_w h9 33 (li.toNat) (pw_i (pw_g h9 30 1)) = h12 at h12I h12E ⊢
    have h12F := h9F.tr (h12E.wk (W' := [30, 33, 36]) (by first | rfl | simp))
    refine pw_vret E rfl ?_
    have q1 : pw_g h6 30 1 = pw_g h 30 1 := by rw [← h6w]; exact pw_g_ne (by omega)
    have q2 : pw_g h9 30 1 = pw_g h6 30 1 + 1 := by rw [← h9w]; exact pw_g_eq (c := 30) (k := 1) h6I rfl rfl (by omega) (by omega)
    have q3 : pw_g h12 30 1 = pw_g h9 30 1 := by rw [← h12w]; exact pw_g_ne (by omega)
    have q4 : pw_g h6 36 (pw_g h 30 1).toNat = wd := by rw [← h6w]; exact pw_g_eqA I rfl (by omega) (by omega) (by omega)
    have q5 : pw_g h12 33 li.toNat = pw_g h9 30 1 := by rw [← h12w]; exact pw_g_eqA h9I rfl (by omega) (by omega) (by omega)
    exact ⟨h12I, h12F, ⟨by omega, by rw [← h12w, pw_g_ne (by omega), ← h9w, pw_g_ne (by omega)]; exact q4, fun j hj => by rw [← h12w, pw_g_ne (by omega), ← h9w, pw_g_ne (by omega), ← h6w]; exact pw_g_ne (fun q => hj q.2.symm), by omega, fun j hj => by rw [← h12w, pw_g_ne (fun q => hj q.2.symm), ← h9w, pw_g_ne (by omega), ← h6w]; exact pw_g_ne (by omega)⟩, rfl⟩
set_option maxHeartbeats 4000000 in
theorem cm_48_x28 {X : List (Nat × List Value)} {d : Nat} {h : pm_H} (hd : 1 ≤ d) (I : pw_I h) (x : Int) (hx1 : 1 ≤ x) (hx2 : x ≤ 9) (hp0 : pw_g h 28 4 ≤ 39) : pw X d h 48 0 [some (.ref 44), some (pw_i x)] [] (fun h' v => pw_I h' ∧ pw_E [28, 29] h h' ∧ (px_PU 28 h h' x) ∧ (v = .inl none)) := by
  have E : pm_ent 48 = some (2, 2, 5, 4, pmc_48) := rfl
  have E0 : pw_E [28, 29] h h := pw_E.rf _ _
  refine pw_ld E (pc' := 1) (st' := [.ref 44]) rfl (fun _ => rfl) ?_
  refine pw_getI2 I E (c := 28) (k := 4) (pc' := 4) rfl rfl rfl rfl rfl rfl (fun hf1a hf1b => ?_)
  refine pw_bip E (pc' := 6) rfl rfl (by decide) ?_
  refine pw_if2 E (pc' := 29) rfl (by decide) (by omega) (by omega) (by decide) (by decide) ?_ ?_
  · intro hc2
    change (40 : Int) ≤ pw_g h 28 4 at hc2
    exfalso; omega
  · intro hc3
    change ¬ ((40 : Int) ≤ pw_g h 28 4) at hc3
    refine pw_ld E (pc' := 10) (st' := [.ref 44]) rfl (fun _ => rfl) ?_
    refine pw_getR (b := 45) I E (c := 28) (k := 3) (pc' := 13) rfl rfl rfl rfl rfl rfl rfl ?_
    refine pw_ld E (pc' := 14) (st' := [.ref 44, .ref 45]) rfl (fun _ => rfl) ?_
    refine pw_getI2 I E (c := 28) (k := 4) (pc' := 17) rfl rfl rfl rfl rfl rfl (fun hf4a hf4b => ?_)
    refine pw_ld E (pc' := 18) (st' := [pw_i x, pw_i (pw_g h 28 4), .ref 45]) rfl (fun _ => rfl) ?_
    refine pw_ast0 I E (c := 29) (pc' := 19) rfl rfl rfl (by decide) rfl (by decide) (by omega) (by omega) rfl (by omega) (by omega) (by omega) (by omega) rfl ?_
    intro h5I h5E
    generalize h5w : pw_w h 29 ((pw_g h 28 4).toNat) (pw_i x) = h5 at h5I h5E ⊢
    have h5F := E0.tr (h5E.wk (W' := [28, 29]) (by first | rfl | simp))
    refine pw_ld E (pc' := 20) (st' := [.ref 44]) rfl (fun _ => rfl) ?_
    refine pw_ld E (pc' := 21) (st' := [.ref 44, .ref 44]) rfl (fun _ => rfl) ?_
    have he7 : pw_g h5 28 4 = pw_g h 28 4 := by rw [← h5w]; exact pw_g_ne (by omega)
    refine pw_getI2 h5I E (c := 28) (k := 4) (pc' := 24) rfl rfl rfl rfl rfl rfl (fun hf6a hf6b => ?_)
    refine pw_ld E (pc' := 25) (st' := [pw_i 1, pw_i (pw_g h5 28 4), .ref 44]) rfl (fun _ => rfl) ?_
    refine pw_add E (pc' := 26) rfl rfl ?_
    refine pw_putI h5I E (c := 28) (k := 4) (pc' := 29) rfl rfl rfl rfl (by omega) (by omega) (by omega) (by omega) rfl rfl ?_
    intro h8I h8E
    generalize h8w : pw_w h5 28 4 (pw_i ((pw_g h5 28 4) + 1)) = h8 at h8I h8E ⊢
    have h8F := h5F.tr (h8E.wk (W' := [28, 29]) (by first | rfl | simp))
    refine pw_vret E rfl ?_
    have q1 : pw_g h5 28 4 = pw_g h 28 4 := by rw [← h5w]; exact pw_g_ne (by omega)
    have q2 : pw_g h8 28 4 = pw_g h5 28 4 + 1 := by rw [← h8w]; exact pw_g_eq (c := 28) (k := 4) h5I rfl rfl (by omega) (by omega)
    have q4 : pw_g h5 29 (pw_g h 28 4).toNat = x := by rw [← h5w]; exact pw_g_eqA I rfl (by omega) (by omega) (by omega)
    exact ⟨h8I, h8F, ⟨by omega, by rw [← h8w, pw_g_ne (by omega)]; exact q4, fun j hj => by rw [← h8w, pw_g_ne (by omega), ← h5w]; exact pw_g_ne (fun q => hj q.2.symm), fun k hk => by rw [← h8w, pw_g_ne (fun q => hk q.2.symm), ← h5w]; exact pw_g_ne (by omega)⟩, rfl⟩
set_option maxHeartbeats 4000000 in
theorem cm_53_x28 {X : List (Nat × List Value)} {d : Nat} {h : pm_H} (hd : 1 ≤ d) (I : pw_I h) (hp0 : pw_Xr X) : pw X d h 53 0 [some (.ref 44)] [] (fun h' v => h = h' ∧ ∃ a : Int, v = .inl (some (pw_i a)) ∧ 0 ≤ a ∧ a ≤ 4 ∧ (a = pt_tr (px_S 28 h))) := by
  have E : pm_ent 53 = some (1, 1, 5, 0, pmc_53) := rfl
  refine pw_ld E (pc' := 1) (st' := [.ref 44]) rfl (fun _ => rfl) ?_
  refine pw_getI2 I E (c := 28) (k := 4) (pc' := 4) rfl rfl rfl rfl rfl rfl (fun hf1a hf1b => ?_)
  refine pw_if E (pc' := 25) rfl (by decide) (by omega) (by omega) ?_ ?_
  · intro hc2
    change pw_g h 28 4 ≤ (0 : Int) at hc2
    refine pw_ld E (pc' := 26) (st' := [pw_i 0]) rfl (fun _ => rfl) ?_
    refine pw_iret E rfl ?_
    exact ⟨rfl, ⟨_, rfl, by omega, by omega, by rw [px_S0 (by omega)]; rfl⟩⟩
  · intro hc3
    change ¬ (pw_g h 28 4 ≤ (0 : Int)) at hc3
    refine pw_ld E (pc' := 10) (st' := [.ref 3]) rfl (fun _ => rfl) ?_
    refine pw_ld E (pc' := 11) (st' := [.ref 44, .ref 3]) rfl (fun _ => rfl) ?_
    refine pw_getR (b := 45) I E (c := 28) (k := 3) (pc' := 14) rfl rfl rfl rfl rfl rfl rfl ?_
    refine pw_ld E (pc' := 15) (st' := [.ref 44, .ref 45, .ref 3]) rfl (fun _ => rfl) ?_
    refine pw_getI2 I E (c := 28) (k := 4) (pc' := 18) rfl rfl rfl rfl rfl rfl (fun hf4a hf4b => ?_)
    refine pw_ld E (pc' := 19) (st' := [pw_i 1, pw_i (pw_g h 28 4), .ref 45, .ref 3]) rfl (fun _ => rfl) ?_
    refine pw_sub E (pc' := 20) rfl rfl ?_
    refine pw_ald2 I E (c := 29) (pc' := 21) rfl rfl rfl (by decide) rfl (by decide) (by omega) (by omega) rfl (fun hf5a hf5b => ?_)
    refine pw_xaldR E (pc' := 22) rfl hp0 (by omega) (by omega) rfl ?_
    have hrk6 := pw_rk_le (pw_g h 29 (((pw_g h 28 4) - 1).toNat))
    refine pw_goto E (pc' := 26) rfl (by decide) ?_
    refine pw_iret E rfl ?_
    have e1 := px_rkE (x := pw_g h 29 (pw_g h 28 4 - 1).toNat) (by omega) (by omega)
    have e2 := pt_rkB (pw_g h 29 (pw_g h 28 4 - 1).toNat)
    exact ⟨rfl, ⟨_, rfl, by omega, by omega, by rw [px_S1 (c := 28) (by omega), e1]; rfl⟩⟩
set_option maxHeartbeats 4000000 in
theorem cm_52_x28 {X : List (Nat × List Value)} {d : Nat} {h : pm_H} (hd : 2 ≤ d) (I : pw_I h) (rk : Int) (hrk1 : 1 ≤ rk) (hrk2 : rk ≤ 4) (st : Int) (hp0 : pw_Xr X) (hp1 : pw_g h 30 1 + pw_g h 28 4 ≤ 1000) (hp2 : 0 ≤ st) (hp3 : st ≤ pw_g h 30 1) (hp4 : pw_g h 33 (pw_g h 28 8).toNat = pw_g h 30 1) : pw X d h 52 0 [some (.ref 44), some (pw_i rk), some (.ref 46)] [] (fun h' v => pw_I h' ∧ pw_E [28, 30, 33, 36] h h' ∧ (px_RL 28 st rk h h') ∧ (v = .inl none)) := by
  have E : pm_ent 52 = some (3, 3, 5, 4, pmc_52) := rfl
  have E0 : pw_E [28, 30, 33, 36] h h := pw_E.rf _ _
  have L0 : ∀ (n0 : Nat)  (gh0 : pm_H), pw_I gh0 → pw_E [28, 30, 33, 36] h gh0 → pt_rl rk (px_S 28 gh0) (px_C gh0 st) = pt_rl rk (px_S 28 h) (px_C h st) → pw_g gh0 30 1 + pw_g gh0 28 4 = pw_g h 30 1 + pw_g h 28 4 → px_B 28 h gh0 → ((∀ k : Nat, k ≠ 4 → pw_g gh0 28 k = pw_g h 28 k)) → (pw_g gh0 28 4).toNat = n0 → pw X d gh0 52 0 [some (.ref 44), some (pw_i rk), some (.ref 46)] [] (fun h' v => pw_I h' ∧ pw_E [28, 30, 33, 36] h h' ∧ (px_RL 28 st rk h h') ∧ (v = .inl none)) := by
    intro n0
    induction n0 using Nat.strongRecOn with
    | ind n0 ih0 =>
      intro  gh0 I0 E0 hx0_0 hx0_1 hx0_2 hx0_3 hm0
      refine pw_ld E (pc' := 1) (st' := [.ref 44]) rfl (fun _ => rfl) ?_
      refine pw_getI2 I0 E (c := 28) (k := 4) (pc' := 4) rfl rfl rfl rfl rfl rfl (fun hf1a hf1b => ?_)
      have e80 := hx0_3 8 (by decide)
      have hr4 := pw_gI (c := 28) (k := 4) I0 rfl rfl
      have hr1 := pw_gI (c := 30) (k := 1) I0 rfl rfl
      have hB1 := hx0_2.1
      have hXr := hp0
      refine pw_if E (pc' := 48) rfl (by decide) (by omega) (by omega) ?_ ?_
      · intro hc2
        change pw_g gh0 28 4 ≤ (0 : Int) at hc2
        refine pw_vret E rfl ?_
        have hz := px_loopR (c := 28) (rk := rk) (h := gh0) (st := st) (Or.inl (by omega))
        exact ⟨I0, E0, ⟨hx0_0.symm.trans hz, by omega, hx0_2, hx0_3⟩, rfl⟩
      · intro hc3
        change ¬ (pw_g gh0 28 4 ≤ (0 : Int)) at hc3
        refine pw_ld E (pc' := 8) (st' := [.ref 44]) rfl (fun _ => rfl) ?_
        obtain ⟨f4l, f4h, -⟩ := pw_obj (c := 28) I0 rfl
        refine pw_call (m' := 53) (As := [.ref 44]) (rest := []) (ls'' := [some (.ref 44)]) (Nat.le_trans (by decide) hd) E rfl (fun _ => pw_iV rfl rfl rfl rfl (pw_cellI f4h rfl)) (rfl : pm_ent 53 = some (1, 1, 5, 0, pmc_53)) rfl rfl (cm_53_x28 (pw_dp hd (by decide)) I0 hXr) ?_
        rintro u6 v5 ⟨rfl, x7, rfl, hx7a, hx7b, hx7r⟩
        refine ⟨_, rfl, ?_⟩
        show pw X d gh0 52 11 [some (.ref 44), some (pw_i rk), some (.ref 46)] [pw_i x7] _
        change x7 = pt_tr (px_S 28 gh0) at hx7r
        refine pw_ld E (pc' := 12) (st' := [pw_i rk, pw_i x7]) rfl (fun _ => rfl) ?_
        refine pw_if2 E (pc' := 48) rfl (by decide) (by omega) (by omega) (by omega) (by omega) ?_ ?_
        · intro hc8
          change x7 < rk at hc8
          refine pw_vret E rfl ?_
          have hz := px_loopR (c := 28) (rk := rk) (h := gh0) (st := st) (Or.inr (by omega))
          exact ⟨I0, E0, ⟨hx0_0.symm.trans hz, by omega, hx0_2, hx0_3⟩, rfl⟩
        · intro hc9
          change ¬ (x7 < rk) at hc9
          refine pw_ld E (pc' := 16) (st' := [.ref 46]) rfl (fun _ => rfl) ?_
          refine pw_ld E (pc' := 17) (st' := [.ref 44, .ref 46]) rfl (fun _ => rfl) ?_
          refine pw_getI2 I0 E (c := 28) (k := 8) (pc' := 20) rfl rfl rfl rfl rfl rfl (fun hf10a hf10b => ?_)
          refine pw_ld E (pc' := 21) (st' := [.ref 44, pw_i (pw_g gh0 28 8), .ref 46]) rfl (fun _ => rfl) ?_
          refine pw_getR (b := 45) I0 E (c := 28) (k := 3) (pc' := 24) rfl rfl rfl rfl rfl rfl rfl ?_
          refine pw_ld E (pc' := 25) (st' := [.ref 44, .ref 45, pw_i (pw_g gh0 28 8), .ref 46]) rfl (fun _ => rfl) ?_
          refine pw_getI2 I0 E (c := 28) (k := 4) (pc' := 28) rfl rfl rfl rfl rfl rfl (fun hf11a hf11b => ?_)
          refine pw_ld E (pc' := 29) (st' := [pw_i 1, pw_i (pw_g gh0 28 4), .ref 45, pw_i (pw_g gh0 28 8), .ref 46]) rfl (fun _ => rfl) ?_
          refine pw_sub E (pc' := 30) rfl rfl ?_
          refine pw_ald2 I0 E (c := 29) (pc' := 31) rfl rfl rfl (by decide) rfl (by decide) (by omega) (by omega) rfl (fun hf12a hf12b => ?_)
          refine pw_ineg E (pc' := 32) rfl rfl ?_
          obtain ⟨f13l, f13h, -⟩ := pw_obj (c := 30) I0 rfl
          refine pw_call (m' := 71) (As := [.ref 46, pw_i (pw_g gh0 28 8), pw_i (-(pw_g gh0 29 (((pw_g gh0 28 4) - 1).toNat)))]) (rest := []) (ls'' := [some (.ref 46), some (pw_i (pw_g gh0 28 8)), some (pw_i (-(pw_g gh0 29 (((pw_g gh0 28 4) - 1).toNat))))]) (Nat.le_trans (by decide) hd) E rfl (fun _ => pw_iV rfl rfl rfl rfl (pw_cellI f13h rfl)) (rfl : pm_ent 71 = some (3, 3, 7, 4, pmc_71)) rfl rfl (cm_71_x (pw_dp hd (by decide)) I0 (pw_g gh0 28 8) (by omega) (by omega) (-(pw_g gh0 29 (((pw_g gh0 28 4) - 1).toNat))) (by omega) (by omega) (by omega)) ?_
          rintro h14 v15 ⟨h14I, h14E, hqem, rfl⟩
          refine ⟨_, rfl, ?_⟩
          have h14F := E0.tr (h14E.wk (W' := [28, 30, 33, 36]) (by first | rfl | simp))
          show pw X d h14 52 35 [some (.ref 44), some (pw_i rk), some (.ref 46)] [] _
          refine pw_ld E (pc' := 36) (st' := [.ref 44]) rfl (fun _ => rfl) ?_
          refine pw_ld E (pc' := 37) (st' := [.ref 44, .ref 44]) rfl (fun _ => rfl) ?_
          have he17 : pw_g h14 28 4 = pw_g gh0 28 4 := pw_Eg (c := 28) I0 h14E rfl rfl 4
          refine pw_getI2 h14I E (c := 28) (k := 4) (pc' := 40) rfl rfl rfl rfl rfl rfl (fun hf16a hf16b => ?_)
          refine pw_ld E (pc' := 41) (st' := [pw_i 1, pw_i (pw_g h14 28 4), .ref 44]) rfl (fun _ => rfl) ?_
          refine pw_sub E (pc' := 42) rfl rfl ?_
          refine pw_putI h14I E (c := 28) (k := 4) (pc' := 45) rfl rfl rfl rfl (by omega) (by omega) (by omega) (by omega) rfl rfl ?_
          intro h18I h18E
          generalize h18w : pw_w h14 28 4 (pw_i ((pw_g h14 28 4) - 1)) = h18 at h18I h18E ⊢
          have h18F := h14F.tr (h18E.wk (W' := [28, 30, 33, 36]) (by first | rfl | simp))
          have f4 : pw_g h14 28 4 = pw_g gh0 28 4 := pw_Eg (c := 28) I0 h14E rfl rfl 4
          have f5 : pw_g h18 28 4 = pw_g h14 28 4 - 1 := by rw [← h18w]; exact pw_g_eq (c := 28) (k := 4) h14I rfl rfl (by omega) (by omega)
          have f30 : pw_g h18 30 1 = pw_g h14 30 1 := by rw [← h18w]; exact pw_g_ne (by omega)
          have fK : ∀ k : Nat, k ≠ 4 → pw_g h18 28 k = pw_g h 28 k := fun k hk => by rw [← h18w, pw_g_ne (fun q => hk q.2.symm), pw_Eg (c := 28) I0 h14E rfl rfl k]; exact hx0_3 k hk
          have fw : ∀ j : Nat, pw_g h18 29 j = pw_g gh0 29 j := fun j => by rw [← h18w, pw_g_ne (by omega)]; exact pw_Eg (c := 29) I0 h14E rfl rfl j
          have f36 : ∀ j : Nat, pw_g h18 36 j = pw_g h14 36 j := fun j => by rw [← h18w]; exact pw_g_ne (by omega)
          have f33 : ∀ j : Nat, pw_g h18 33 j = pw_g h14 33 j := fun j => by rw [← h18w]; exact pw_g_ne (by omega)
          have hS := px_S1 (c := 28) (h := gh0) (by omega)
          have hS2 : px_S 28 h18 = px_st (pw_g gh0 29) (pw_g gh0 28 4 - 1).toNat := px_S.pop (c := 28) (h := gh0) (by omega) (by omega) fw hS
          have hC2 : px_C h18 st = -(pw_g gh0 29 (pw_g gh0 28 4 - 1).toNat) :: px_C gh0 st := (px_C.eq f30 f36).trans (px_C.em hqem (by omega) (by omega))
          have hPR : pt_rl rk (px_S 28 h18) (px_C h18 st) = pt_rl rk (px_S 28 h) (px_C h st) := by rw [← hx0_0, hS, hS2, hC2]; exact (pt_rl_ge (by rw [hS] at hx7r; have z : x7 = pt_rk (pw_g gh0 29 (pw_g gh0 28 4 - 1).toNat) := hx7r; omega)).symm
          have em1 := hqem.1
          have hBB : px_B 28 h h18 := (px_B.em (c := 28) hx0_2 e80 hqem).eq f30 f36 f33
          refine pw_goto E (pc' := 0) rfl (by decide) ?_
          exact ih0 _ (by omega)  h18 h18I h18F  hPR (by omega) hBB fK rfl
  exact L0 _  h I E0  rfl (by omega) (px_B.rf hp4) (fun _ _ => rfl) rfl
set_option maxHeartbeats 4000000 in
theorem cm_49_x28 {X : List (Nat × List Value)} {d : Nat} {h : pm_H} (hd : 2 ≤ d) (I : pw_I h) (st : Int) (hp0 : pw_g h 30 1 + pw_g h 28 4 ≤ 1000) (hp1 : 0 ≤ st) (hp2 : st ≤ pw_g h 30 1) (hp3 : pw_g h 33 (pw_g h 28 8).toNat = pw_g h 30 1) (hp4 : pw_g h 28 5 = px_dc (px_S 28 h)) (hp5 : pw_g h 28 5 ≤ 5) : pw X d h 49 0 [some (.ref 44), some (.ref 46)] [] (fun h' v => pw_I h' ∧ pw_E [28, 30, 33, 36] h h' ∧ (px_EP 28 st h h') ∧ (v = .inl none)) := by
  have E : pm_ent 49 = some (2, 2, 5, 4, pmc_49) := rfl
  have E0 : pw_E [28, 30, 33, 36] h h := pw_E.rf _ _
  have L0 : ∀ (n0 : Nat)  (gh0 : pm_H), pw_I gh0 → pw_E [28, 30, 33, 36] h gh0 → pt_ep (px_S 28 gh0) (pw_g gh0 28 5) (px_C gh0 st) = pt_ep (px_S 28 h) (pw_g h 28 5) (px_C h st) → pw_g gh0 30 1 + pw_g gh0 28 4 = pw_g h 30 1 + pw_g h 28 4 → px_B 28 h gh0 → ((∀ k : Nat, k ≠ 4 → k ≠ 5 → pw_g gh0 28 k = pw_g h 28 k)) → pw_g gh0 28 5 = px_dc (px_S 28 gh0) → pw_g gh0 28 5 ≤ 5 → (pw_g gh0 28 4).toNat = n0 → pw X d gh0 49 0 [some (.ref 44), some (.ref 46)] [] (fun h' v => pw_I h' ∧ pw_E [28, 30, 33, 36] h h' ∧ (px_EP 28 st h h') ∧ (v = .inl none)) := by
    intro n0
    induction n0 using Nat.strongRecOn with
    | ind n0 ih0 =>
      intro  gh0 I0 E0 hx0_0 hx0_1 hx0_2 hx0_3 hx0_4 hx0_5 hm0
      refine pw_ld E (pc' := 1) (st' := [.ref 44]) rfl (fun _ => rfl) ?_
      refine pw_getI2 I0 E (c := 28) (k := 4) (pc' := 4) rfl rfl rfl rfl rfl rfl (fun hf1a hf1b => ?_)
      have e80 := hx0_3 8 (by decide) (by decide)
      have hr4 := pw_gI (c := 28) (k := 4) I0 rfl rfl
      have hr1 := pw_gI (c := 30) (k := 1) I0 rfl rfl
      have hB1 := hx0_2.1
      have hd0 := px_dcB (px_S 28 gh0)
      refine pw_if E (pc' := 56) rfl (by decide) (by omega) (by omega) ?_ ?_
      · intro hc2
        change pw_g gh0 28 4 ≤ (0 : Int) at hc2
        refine pw_ld E (pc' := 57) (st' := [.ref 44]) rfl (fun _ => rfl) ?_
        refine pw_ld E (pc' := 58) (st' := [pw_i 3, .ref 44]) rfl (fun _ => rfl) ?_
        refine pw_putI I0 E (c := 28) (k := 7) (pc' := 61) rfl rfl rfl rfl (by omega) (by omega) (by omega) (by omega) rfl rfl ?_
        intro h3I h3E
        generalize h3w : pw_w gh0 28 7 (pw_i 3) = h3 at h3I h3E ⊢
        have h3F := E0.tr (h3E.wk (W' := [28, 30, 33, 36]) (by first | rfl | simp))
        have z7 : pw_g h3 28 7 = 3 := by rw [← h3w]; exact pw_g_eq (c := 28) (k := 7) I0 rfl rfl (by omega) (by omega)
        have zk : ∀ k : Nat, k ≠ 7 → pw_g h3 28 k = pw_g gh0 28 k := fun k hk => by rw [← h3w]; exact pw_g_ne (fun q => hk q.2.symm)
        have z4 := zk 4 (by decide)
        have z5 := zk 5 (by decide)
        have z30 : pw_g h3 30 1 = pw_g gh0 30 1 := by rw [← h3w]; exact pw_g_ne (by omega)
        have zS : px_S 28 h3 = px_S 28 gh0 := px_S.eq (c := 28) z4 (fun j => by rw [← h3w]; exact pw_g_ne (by omega))
        have zC : px_C h3 st = px_C gh0 st := px_C.eq z30 (fun j => by rw [← h3w]; exact pw_g_ne (by omega))
        have zB : px_B 28 h h3 := hx0_2.eq z30 (fun j => by rw [← h3w]; exact pw_g_ne (by omega)) (fun j => by rw [← h3w]; exact pw_g_ne (by omega))
        have hz : pt_ep (px_S 28 gh0) (pw_g gh0 28 5) (px_C gh0 st) = (px_S 28 gh0, pw_g gh0 28 5, px_C gh0 st) := by rw [px_S0 (by omega)]; rfl
        refine pw_vret E rfl ?_
        exact ⟨h3I, h3F, ⟨by rw [zS, zC, z5]; exact hx0_0.symm.trans hz, by omega, zB, z7, fun k k4 k5 k7 => (zk k k7).trans (hx0_3 k k4 k5)⟩, rfl⟩
      · intro hc4
        change ¬ (pw_g gh0 28 4 ≤ (0 : Int)) at hc4
        refine pw_ld E (pc' := 8) (st' := [.ref 44]) rfl (fun _ => rfl) ?_
        refine pw_getR (b := 45) I0 E (c := 28) (k := 3) (pc' := 11) rfl rfl rfl rfl rfl rfl rfl ?_
        refine pw_ld E (pc' := 12) (st' := [.ref 44, .ref 45]) rfl (fun _ => rfl) ?_
        refine pw_getI2 I0 E (c := 28) (k := 4) (pc' := 15) rfl rfl rfl rfl rfl rfl (fun hf5a hf5b => ?_)
        refine pw_ld E (pc' := 16) (st' := [pw_i 1, pw_i (pw_g gh0 28 4), .ref 45]) rfl (fun _ => rfl) ?_
        refine pw_sub E (pc' := 17) rfl rfl ?_
        refine pw_ald2 I0 E (c := 29) (pc' := 18) rfl rfl rfl (by decide) rfl (by decide) (by omega) (by omega) rfl (fun hf6a hf6b => ?_)
        refine pw_bip E (pc' := 20) rfl rfl (by decide) ?_
        refine pw_if2 E (pc' := 56) rfl (by decide) (by omega) (by omega) (by decide) (by decide) ?_ ?_
        · intro hc7
          change pw_g gh0 29 (((pw_g gh0 28 4) - 1).toNat) ≠ (8 : Int) at hc7
          refine pw_ld E (pc' := 57) (st' := [.ref 44]) rfl (fun _ => rfl) ?_
          refine pw_ld E (pc' := 58) (st' := [pw_i 3, .ref 44]) rfl (fun _ => rfl) ?_
          refine pw_putI I0 E (c := 28) (k := 7) (pc' := 61) rfl rfl rfl rfl (by omega) (by omega) (by omega) (by omega) rfl rfl ?_
          intro h8I h8E
          generalize h8w : pw_w gh0 28 7 (pw_i 3) = h8 at h8I h8E ⊢
          have h8F := E0.tr (h8E.wk (W' := [28, 30, 33, 36]) (by first | rfl | simp))
          have z7 : pw_g h8 28 7 = 3 := by rw [← h8w]; exact pw_g_eq (c := 28) (k := 7) I0 rfl rfl (by omega) (by omega)
          have zk : ∀ k : Nat, k ≠ 7 → pw_g h8 28 k = pw_g gh0 28 k := fun k hk => by rw [← h8w]; exact pw_g_ne (fun q => hk q.2.symm)
          have z4 := zk 4 (by decide)
          have z5 := zk 5 (by decide)
          have z30 : pw_g h8 30 1 = pw_g gh0 30 1 := by rw [← h8w]; exact pw_g_ne (by omega)
          have zS : px_S 28 h8 = px_S 28 gh0 := px_S.eq (c := 28) z4 (fun j => by rw [← h8w]; exact pw_g_ne (by omega))
          have zC : px_C h8 st = px_C gh0 st := px_C.eq z30 (fun j => by rw [← h8w]; exact pw_g_ne (by omega))
          have zB : px_B 28 h h8 := hx0_2.eq z30 (fun j => by rw [← h8w]; exact pw_g_ne (by omega)) (fun j => by rw [← h8w]; exact pw_g_ne (by omega))
          have hz : pt_ep (px_S 28 gh0) (pw_g gh0 28 5) (px_C gh0 st) = (px_S 28 gh0, pw_g gh0 28 5, px_C gh0 st) := by rw [px_S1 (c := 28) (by omega)]; exact if_neg (by omega)
          refine pw_vret E rfl ?_
          exact ⟨h8I, h8F, ⟨by rw [zS, zC, z5]; exact hx0_0.symm.trans hz, by omega, zB, z7, fun k k4 k5 k7 => (zk k k7).trans (hx0_3 k k4 k5)⟩, rfl⟩
        · intro hc9
          change ¬ (pw_g gh0 29 (((pw_g gh0 28 4) - 1).toNat) ≠ (8 : Int)) at hc9
          refine pw_ld E (pc' := 24) (st' := [.ref 46]) rfl (fun _ => rfl) ?_
          refine pw_ld E (pc' := 25) (st' := [.ref 44, .ref 46]) rfl (fun _ => rfl) ?_
          refine pw_getI2 I0 E (c := 28) (k := 8) (pc' := 28) rfl rfl rfl rfl rfl rfl (fun hf10a hf10b => ?_)
          refine pw_bip E (pc' := 30) rfl rfl (by decide) ?_
          have hS := px_S1 (c := 28) (h := gh0) (by omega)
          have hS : px_S 28 gh0 = 8 :: px_st (pw_g gh0 29) (pw_g gh0 28 4 - 1).toNat := by rw [hS, show pw_g gh0 29 (pw_g gh0 28 4 - 1).toNat = 8 by omega]
          have hdc := hx0_4
          rw [hS] at hdc
          have hdc2 : pw_g gh0 28 5 = px_dc (px_st (pw_g gh0 29) (pw_g gh0 28 4 - 1).toNat) + 1 := hdc
          have hd1 := px_dcB (px_st (pw_g gh0 29) (pw_g gh0 28 4 - 1).toNat)
          obtain ⟨f11l, f11h, -⟩ := pw_obj (c := 30) I0 rfl
          refine pw_call (m' := 71) (As := [.ref 46, pw_i (pw_g gh0 28 8), pw_i ((-8))]) (rest := []) (ls'' := [some (.ref 46), some (pw_i (pw_g gh0 28 8)), some (pw_i ((-8)))]) (Nat.le_trans (by decide) hd) E rfl (fun _ => pw_iV rfl rfl rfl rfl (pw_cellI f11h rfl)) (rfl : pm_ent 71 = some (3, 3, 7, 4, pmc_71)) rfl rfl (cm_71_x (pw_dp hd (by decide)) I0 (pw_g gh0 28 8) (by omega) (by omega) ((-8)) (by omega) (by omega) (by omega)) ?_
          rintro h12 v13 ⟨h12I, h12E, hqem, rfl⟩
          refine ⟨_, rfl, ?_⟩
          have h12F := E0.tr (h12E.wk (W' := [28, 30, 33, 36]) (by first | rfl | simp))
          show pw X d h12 49 33 [some (.ref 44), some (.ref 46)] [] _
          refine pw_ld E (pc' := 34) (st' := [.ref 44]) rfl (fun _ => rfl) ?_
          refine pw_ld E (pc' := 35) (st' := [.ref 44, .ref 44]) rfl (fun _ => rfl) ?_
          have he15 : pw_g h12 28 4 = pw_g gh0 28 4 := pw_Eg (c := 28) I0 h12E rfl rfl 4
          refine pw_getI2 h12I E (c := 28) (k := 4) (pc' := 38) rfl rfl rfl rfl rfl rfl (fun hf14a hf14b => ?_)
          refine pw_ld E (pc' := 39) (st' := [pw_i 1, pw_i (pw_g h12 28 4), .ref 44]) rfl (fun _ => rfl) ?_
          refine pw_sub E (pc' := 40) rfl rfl ?_
          refine pw_putI h12I E (c := 28) (k := 4) (pc' := 43) rfl rfl rfl rfl (by omega) (by omega) (by omega) (by omega) rfl rfl ?_
          intro h16I h16E
          generalize h16w : pw_w h12 28 4 (pw_i ((pw_g h12 28 4) - 1)) = h16 at h16I h16E ⊢
          have h16F := h12F.tr (h16E.wk (W' := [28, 30, 33, 36]) (by first | rfl | simp))
          have f4 : pw_g h12 28 4 = pw_g gh0 28 4 := pw_Eg (c := 28) I0 h12E rfl rfl 4
          have d5a : pw_g h12 28 5 = pw_g gh0 28 5 := pw_Eg (c := 28) I0 h12E rfl rfl 5
          have d5b : pw_g h16 28 5 = pw_g h12 28 5 := by rw [← h16w]; exact pw_g_ne (by omega)
          have f5 : pw_g h16 28 4 = pw_g h12 28 4 - 1 := by rw [← h16w]; exact pw_g_eq (c := 28) (k := 4) h12I rfl rfl (by omega) (by omega)
          refine pw_ld E (pc' := 44) (st' := [.ref 44]) rfl (fun _ => rfl) ?_
          refine pw_ld E (pc' := 45) (st' := [.ref 44, .ref 44]) rfl (fun _ => rfl) ?_
          refine pw_getI2 h16I E (c := 28) (k := 5) (pc' := 48) rfl rfl rfl rfl rfl rfl (fun hf17a hf17b => ?_)
          refine pw_ld E (pc' := 49) (st' := [pw_i 1, pw_i (pw_g h16 28 5), .ref 44]) rfl (fun _ => rfl) ?_
          refine pw_sub E (pc' := 50) rfl rfl ?_
          refine pw_putI h16I E (c := 28) (k := 5) (pc' := 53) rfl rfl rfl rfl (by omega) (by omega) (by omega) (by omega) rfl rfl ?_
          intro h18I h18E
          generalize h18w : pw_w h16 28 5 (pw_i ((pw_g h16 28 5) - 1)) = h18 at h18I h18E ⊢
          have h18F := h16F.tr (h18E.wk (W' := [28, 30, 33, 36]) (by first | rfl | simp))
          have d5c : pw_g h18 28 5 = pw_g h16 28 5 - 1 := by rw [← h18w]; exact pw_g_eq (c := 28) (k := 5) h16I rfl rfl (by omega) (by omega)
          have f6 : pw_g h18 28 4 = pw_g h16 28 4 := by rw [← h18w]; exact pw_g_ne (by omega)
          have f30 : pw_g h18 30 1 = pw_g h12 30 1 := by rw [← h18w, pw_g_ne (by omega), ← h16w]; exact pw_g_ne (by omega)
          have fK : ∀ k : Nat, k ≠ 4 → k ≠ 5 → pw_g h18 28 k = pw_g h 28 k := fun k hk hk5 => by rw [← h18w, pw_g_ne (fun q => hk5 q.2.symm), ← h16w, pw_g_ne (fun q => hk q.2.symm), pw_Eg (c := 28) I0 h12E rfl rfl k]; exact hx0_3 k hk hk5
          have fw : ∀ j : Nat, pw_g h18 29 j = pw_g gh0 29 j := fun j => by rw [← h18w, pw_g_ne (by omega), ← h16w, pw_g_ne (by omega)]; exact pw_Eg (c := 29) I0 h12E rfl rfl j
          have f36 : ∀ j : Nat, pw_g h18 36 j = pw_g h12 36 j := fun j => by rw [← h18w, pw_g_ne (by omega), ← h16w]; exact pw_g_ne (by omega)
          have f33 : ∀ j : Nat, pw_g h18 33 j = pw_g h12 33 j := fun j => by rw [← h18w, pw_g_ne (by omega), ← h16w]; exact pw_g_ne (by omega)
          have hS2 : px_S 28 h18 = px_st (pw_g gh0 29) (pw_g gh0 28 4 - 1).toNat := px_S.pop (c := 28) (h := gh0) (by omega) (by omega) fw hS
          have hC2 : px_C h18 st = -8 :: px_C gh0 st := (px_C.eq f30 f36).trans (px_C.em hqem (by omega) (by omega))
          have hPR : pt_ep (px_S 28 h18) (pw_g h18 28 5) (px_C h18 st) = pt_ep (px_S 28 h) (pw_g h 28 5) (px_C h st) := by rw [← hx0_0, hS, hS2, hC2, show pw_g h18 28 5 = pw_g gh0 28 5 - 1 by omega]; exact (if_pos rfl : pt_ep (8 :: _) _ _ = _).symm
          have em1 := hqem.1
          have hBB : px_B 28 h h18 := (px_B.em (c := 28) hx0_2 e80 hqem).eq f30 f36 f33
          have hDC : pw_g h18 28 5 = px_dc (px_S 28 h18) := by rw [hS2]; omega
          refine pw_goto E (pc' := 0) rfl (by decide) ?_
          exact ih0 _ (by omega)  h18 h18I h18F  hPR (by omega) hBB fK hDC (by omega) rfl
  exact L0 _  h I E0  rfl (by omega) (px_B.rf hp3) (fun _ _ _ => rfl) hp4 (by omega) rfl
end
section
/-! texts: the class's Tokens -/
def px_TW (h h' : pm_H) : Prop := pw_g h' 24 1 = pw_g h 24 1 ∧ pw_g h' 24 2 = pw_g h 24 2 ∧ pw_g h 24 3 < pw_g h' 24 3 ∧ pw_g h' 24 3 ≤ pw_g h 24 1 ∧ (∀ j : Nat, (pw_g h 24 3).toNat ≤ j → j < (pw_g h' 24 3).toNat → pt_le (pw_g h 25 j)) ∧ (pw_g h' 24 3 < pw_g h 24 1 → ¬ pt_le (pw_g h 25 (pw_g h' 24 3).toNat)) ∧ (8 < pw_g h' 24 3 - pw_g h 24 2 → pw_g h' 24 4 = 0) ∧ (pw_g h' 24 3 - pw_g h 24 2 ≤ 8 → pw_g h' 24 4 = 1)
def px_TN (h h' : pm_H) : Prop := pw_g h' 24 1 = pw_g h 24 1 ∧ pw_g h' 24 2 = pw_g h 24 2 ∧ pw_g h 24 3 < pw_g h' 24 3 ∧ pw_g h' 24 3 ≤ pw_g h 24 1 ∧ (∀ j : Nat, (pw_g h 24 3).toNat ≤ j → j < (pw_g h' 24 3).toNat → pt_di (pw_g h 25 j)) ∧ (pw_g h' 24 3 < pw_g h 24 1 → ¬ pt_di (pw_g h 25 (pw_g h' 24 3).toNat)) ∧ (4 < pw_g h' 24 3 - pw_g h 24 2 → pw_g h' 24 4 = 0) ∧ (pw_g h' 24 3 - pw_g h 24 2 ≤ 4 → pw_g h' 24 4 = 2 ∧ pw_g h' 24 5 = pt_hd (pw_g h 25) (pw_g h 24 2).toNat (pw_g h' 24 3 - pw_g h 24 2).toNat)
/-- the next token, or none -/
def px_AD (h h' : pm_H) : Prop := pw_g h' 24 1 = pw_g h 24 1 ∧ (((∀ j : Nat, (pw_g h 24 3).toNat ≤ j → j < (pw_g h 24 1).toNat → pt_bl (pw_g h 25 j)) ∧ pw_g h' 24 4 = 4 ∧ pw_g h' 24 2 = pw_g h 24 1 ∧ pw_g h' 24 3 = pw_g h 24 1) ∨
  ∃ t : pt_tok, ((pw_g h 24 3).toNat ≤ t.1 ∧ ∀ j : Nat, (pw_g h 24 3).toNat ≤ j → j < t.1 → pt_bl (pw_g h 25 j)) ∧ pt_ta (pw_g h 25) (pw_g h 24 1).toNat t ∧ pw_g h' 24 2 = t.1 ∧ pw_g h' 24 3 = t.2.1 ∧ (t.2.2.1 ≠ 4 → pw_g h' 24 4 = t.2.2.1) ∧ (t.2.2.1 = 4 → pw_g h' 24 4 = 0) ∧ (t.2.2.1 = 2 ∨ t.2.2.1 = 3 → pw_g h' 24 5 = t.2.2.2))
theorem px_AD.st {h h' : pm_H} {L : List pt_tok} (H : px_AD h h') (S : pt_sg (pw_g h 25) (pw_g h 24 1).toNat (pw_g h 24 3).toNat L (pw_g h 24 1).toNat) : (L = [] ∧ pw_g h' 24 4 = 4 ∧ pw_g h' 24 2 = pw_g h 24 1 ∧ pw_g h' 24 3 = pw_g h 24 1) ∨ ∃ (t : pt_tok) (L' : List pt_tok), L = t :: L' ∧ pt_ta (pw_g h 25) (pw_g h 24 1).toNat t ∧ pw_g h' 24 2 = t.1 ∧ pw_g h' 24 3 = t.2.1 ∧ (t.2.2.1 ≠ 4 → pw_g h' 24 4 = t.2.2.1) ∧ (t.2.2.1 = 4 → pw_g h' 24 4 = 0) ∧ (t.2.2.1 = 2 ∨ t.2.2.1 = 3 → pw_g h' 24 5 = t.2.2.2) ∧ pt_sg (pw_g h 25) (pw_g h 24 1).toNat t.2.1 L' (pw_g h 24 1).toNat := by
  cases L with
  | nil =>
    rcases H.2 with ⟨-, a⟩ | ⟨t, a, b, -⟩
    · exact Or.inl ⟨rfl, a⟩
    · exact absurd (S.2 t.1 a.1 (Nat.lt_of_lt_of_le b.1 b.2.1)) b.nb
  | cons u L' =>
    rcases H.2 with ⟨a, -⟩ | ⟨t, a, b, c⟩
    · exact absurd (a u.1 S.1.1 (Nat.lt_of_lt_of_le S.2.1.1 S.2.1.2.1)) S.2.1.nb
    · have e : t.1 = u.1 := by
        rcases (by omega : t.1 < u.1 ∨ u.1 < t.1 ∨ t.1 = u.1) with q | q | q
        · exact absurd (S.1.2 t.1 a.1 q) b.nb
        · exact absurd (a.2 u.1 S.1.1 q) S.2.1.nb
        · exact q
      have e2 := b.eq S.2.1 e
      subst e2
      exact Or.inr ⟨t, L', rfl, b, c.1, c.2.1, c.2.2.1, c.2.2.2.1, c.2.2.2.2, S.2.2⟩
/-- a word's end, a numeral's, a sign's: the token -/
theorem px_TW.ta {h h' : pm_H} (H : px_TW h h') (e1 : pw_g h 24 2 = pw_g h 24 3) (s0 : 0 ≤ pw_g h 24 3) : pt_ta (pw_g h 25) (pw_g h 24 1).toNat ((pw_g h 24 2).toNat, (pw_g h' 24 3).toNat, (if pw_g h' 24 3 - pw_g h 24 2 ≤ 8 then (1 : Int) else 4), pt_hw (pw_g h 25) (pw_g h 24 2).toNat (min 8 ((pw_g h' 24 3).toNat - (pw_g h 24 2).toNat))) := by
  obtain ⟨a1, a2, a3, a4, a5, a6, a7, a8⟩ := H
  refine pt_taW (by omega) (by omega) (fun j p q => a5 j (by omega) q) (fun q => a6 (by omega)) (fun q => if_neg (by omega)) (fun q => if_pos (by omega)) rfl
theorem px_TN.ta {h h' : pm_H} (H : px_TN h h') (e1 : pw_g h 24 2 = pw_g h 24 3) (s0 : 0 ≤ pw_g h 24 3) : pt_ta (pw_g h 25) (pw_g h 24 1).toNat ((pw_g h 24 2).toNat, (pw_g h' 24 3).toNat, (if pw_g h' 24 3 - pw_g h 24 2 ≤ 4 then (2 : Int) else 4), pt_hd (pw_g h 25) (pw_g h 24 2).toNat (min 4 ((pw_g h' 24 3).toNat - (pw_g h 24 2).toNat))) := by
  obtain ⟨a1, a2, a3, a4, a5, a6, a7, a8⟩ := H
  refine pt_taN (by omega) (by omega) (fun j p q => a5 j (by omega) q) (fun q => a6 (by omega)) (fun q => if_neg (by omega)) (fun q => if_pos (by omega)) rfl
theorem px_nmE {X : List (Nat × List Value)} {d : Nat} {h : pm_H} {m pc : Nat} {ls : pm_L} {r : List Value} {Q : pm_H → (Option Value ⊕ Unit) → Prop} {a : Int} (H : ∀ b : Int, -2147483648 ≤ b → b ≤ 2147483647 → ((a < -2147483648 ∨ 2147483647 < a) ∨ b = a) → pw X d h m pc ls (pw_i b :: r) Q) : pw X d h m pc ls (pw_i a :: r) Q := by
  by_cases hr : a < -2147483648 ∨ 2147483647 < a
  · exact pw_nm (fun b h1 h2 => H b h1 h2 (Or.inl hr))
  · exact H a (by omega) (by omega) (Or.inr rfl)
theorem px_AD.w {h H h' : pm_H} (T : px_TW H h') (hT : pw_g H 25 = pw_g h 25) (e1 : pw_g H 24 1 = pw_g h 24 1) (e3 : pw_g H 24 2 = pw_g H 24 3) (s0 : pw_g h 24 3 ≤ pw_g H 24 2) (z0 : 0 ≤ pw_g h 24 3) (bl : ∀ j : Nat, (pw_g h 24 3).toNat ≤ j → j < (pw_g H 24 2).toNat → pt_bl (pw_g h 25 j)) : px_AD h h' := by
  have ta := T.ta e3 (by omega)
  rw [hT, e1] at ta
  obtain ⟨a1, a2, a3, a4, a5, a6, a7, a8⟩ := T
  refine ⟨by omega, Or.inr ⟨_, ⟨?_, fun j p q => bl j p q⟩, ta, ?_, ?_, ?_, ?_, ?_⟩⟩
  · show (pw_g h 24 3).toNat ≤ (pw_g H 24 2).toNat
    omega
  · show pw_g h' 24 2 = (((pw_g H 24 2).toNat : Nat) : Int)
    omega
  · show pw_g h' 24 3 = (((pw_g h' 24 3).toNat : Nat) : Int)
    omega
  · show (if pw_g h' 24 3 - pw_g H 24 2 ≤ 8 then (1 : Int) else 4) ≠ 4 → pw_g h' 24 4 = if pw_g h' 24 3 - pw_g H 24 2 ≤ 8 then (1 : Int) else 4
    intro q
    by_cases c : pw_g h' 24 3 - pw_g H 24 2 ≤ 8
    · rw [if_pos c]; exact a8 c
    · rw [if_neg c] at q; exact absurd rfl q
  · show (if pw_g h' 24 3 - pw_g H 24 2 ≤ 8 then (1 : Int) else 4) = 4 → pw_g h' 24 4 = 0
    intro q
    by_cases c : pw_g h' 24 3 - pw_g H 24 2 ≤ 8
    · rw [if_pos c] at q; exact absurd q (by decide)
    · exact a7 (by omega)
  · show (if pw_g h' 24 3 - pw_g H 24 2 ≤ 8 then (1 : Int) else 4) = 2 ∨ (if pw_g h' 24 3 - pw_g H 24 2 ≤ 8 then (1 : Int) else 4) = 3 → _
    intro q
    exfalso
    by_cases c : pw_g h' 24 3 - pw_g H 24 2 ≤ 8
    · rw [if_pos c] at q; exact absurd q (by decide)
    · rw [if_neg c] at q; exact absurd q (by decide)
theorem px_AD.n {h H h' : pm_H} (T : px_TN H h') (hT : pw_g H 25 = pw_g h 25) (e1 : pw_g H 24 1 = pw_g h 24 1) (e3 : pw_g H 24 2 = pw_g H 24 3) (s0 : pw_g h 24 3 ≤ pw_g H 24 2) (z0 : 0 ≤ pw_g h 24 3) (bl : ∀ j : Nat, (pw_g h 24 3).toNat ≤ j → j < (pw_g H 24 2).toNat → pt_bl (pw_g h 25 j)) : px_AD h h' := by
  have ta := T.ta e3 (by omega)
  obtain ⟨a1, a2, a3, a4, a5, a6, a7, a8⟩ := T
  rw [hT] at a8
  rw [hT, e1] at ta
  refine ⟨by omega, Or.inr ⟨_, ⟨?_, fun j p q => bl j p q⟩, ta, ?_, ?_, ?_, ?_, ?_⟩⟩
  · show (pw_g h 24 3).toNat ≤ (pw_g H 24 2).toNat
    omega
  · show pw_g h' 24 2 = (((pw_g H 24 2).toNat : Nat) : Int)
    omega
  · show pw_g h' 24 3 = (((pw_g h' 24 3).toNat : Nat) : Int)
    omega
  · show (if pw_g h' 24 3 - pw_g H 24 2 ≤ 4 then (2 : Int) else 4) ≠ 4 → pw_g h' 24 4 = if pw_g h' 24 3 - pw_g H 24 2 ≤ 4 then (2 : Int) else 4
    intro q
    by_cases c : pw_g h' 24 3 - pw_g H 24 2 ≤ 4
    · rw [if_pos c]; exact (a8 c).1
    · rw [if_neg c] at q; exact absurd rfl q
  · show (if pw_g h' 24 3 - pw_g H 24 2 ≤ 4 then (2 : Int) else 4) = 4 → pw_g h' 24 4 = 0
    intro q
    by_cases c : pw_g h' 24 3 - pw_g H 24 2 ≤ 4
    · rw [if_pos c] at q; exact absurd q (by decide)
    · exact a7 (by omega)
  · show (if pw_g h' 24 3 - pw_g H 24 2 ≤ 4 then (2 : Int) else 4) = 2 ∨ (if pw_g h' 24 3 - pw_g H 24 2 ≤ 4 then (2 : Int) else 4) = 3 → pw_g h' 24 5 = pt_hd (pw_g h 25) (pw_g H 24 2).toNat (min 4 ((pw_g h' 24 3).toNat - (pw_g H 24 2).toNat))
    intro q
    by_cases c : pw_g h' 24 3 - pw_g H 24 2 ≤ 4
    · rw [(a8 c).2, show (pw_g h' 24 3 - pw_g H 24 2).toNat = min 4 ((pw_g h' 24 3).toNat - (pw_g H 24 2).toNat) by omega]
    · rw [if_neg c] at q; exact absurd q (by decide)
theorem px_AD.s {h h' : pm_H} {s : Int} (e1 : pw_g h' 24 1 = pw_g h 24 1) (e2 : pw_g h' 24 2 = s) (e3 : pw_g h' 24 3 = s + 1) (lt : s < pw_g h 24 1) (s0 : pw_g h 24 3 ≤ s) (z0 : 0 ≤ pw_g h 24 3) (bl : ∀ j : Nat, (pw_g h 24 3).toNat ≤ j → j < s.toNat → pt_bl (pw_g h 25 j)) (nb : ¬ pt_bl (pw_g h 25 s.toNat)) (nl : ¬ pt_le (pw_g h 25 s.toNat)) (nd : ¬ pt_di (pw_g h 25 s.toNat)) (kd : (pt_si (pw_g h 25 s.toNat) ∧ pw_g h' 24 4 = 3) ∨ (¬ pt_si (pw_g h 25 s.toNat) ∧ pw_g h' 24 4 = 0)) (v : pw_g h' 24 5 = pw_g h 25 s.toNat) : px_AD h h' := by
  rcases kd with ⟨q, k⟩ | ⟨q, k⟩
  · refine ⟨e1, Or.inr ⟨(s.toNat, s.toNat + 1, 3, pw_g h 25 s.toNat), ⟨?_, fun j p q => bl j p q⟩, pt_taS rfl (by omega) nb nl nd (fun _ => rfl) (fun z => absurd q z) rfl, ?_, ?_, fun _ => k, fun z => absurd (show (3 : Int) = 4 from z) (by decide), fun _ => v⟩⟩
    · show (pw_g h 24 3).toNat ≤ s.toNat
      omega
    · show pw_g h' 24 2 = ((s.toNat : Nat) : Int)
      omega
    · show pw_g h' 24 3 = ((s.toNat + 1 : Nat) : Int)
      omega
  · refine ⟨e1, Or.inr ⟨(s.toNat, s.toNat + 1, 4, pw_g h 25 s.toNat), ⟨?_, fun j p q => bl j p q⟩, pt_taS rfl (by omega) nb nl nd (fun z => absurd z q) (fun _ => rfl) rfl, ?_, ?_, fun z => absurd rfl z, fun _ => k, fun z => absurd (show (4 : Int) = 2 ∨ (4 : Int) = 3 from z) (by decide)⟩⟩
    · show (pw_g h 24 3).toNat ≤ s.toNat
      omega
    · show pw_g h' 24 2 = ((s.toNat : Nat) : Int)
      omega
    · show pw_g h' 24 3 = ((s.toNat + 1 : Nat) : Int)
      omega
end
