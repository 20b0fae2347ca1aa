section
/-! what the model keeps of a writer -/
set_option maxHeartbeats 4000000 in
theorem cm_277_w {X : List (Nat × List Value)} {d : Nat} {h : pm_H} (hd : 34 ≤ d) (I : pw_I h) (ix : Int) (hix1 : (-2147483648) ≤ ix) (hix2 : ix ≤ 2147483647) (hp0 : pw_K h) (hp1 : pt_WK h) : pw X d h 277 0 [some (.ref 141), some (pw_i ix), none] [] (fun h' v => pw_I h' ∧ pw_E [125, 127, 128, 129, 146, 147, 157, 158, 159, 160, 161, 1002] h h' ∧ (pw_K h') ∧ (∃ a : Int, v = .inl (some (pw_i a)) ∧ (-2147483648) ≤ a ∧ a ≤ 2147483647 ∧ (pw_g h' 125 2 = 0 ∧ (¬ (0 ≤ ix ∧ ix ≤ 3) → a = -1 ∧ pw_O h h' ∧ pt_O8 h h') ∧ (0 ≤ ix → ix ≤ 3 → ∃ L : List pt_tok, pt_sg (pw_g h 126) (pw_g h 125 2).toNat 0 L (pw_g h 125 2).toNat ∧ a = (pt_TX 1 L (pw_g h 125 2).toNat).1 ∧ (a ≠ 0 → pw_O h h' ∧ pt_O8 h h') ∧ (a = 0 → pt_WS h' ix (pt_TX 1 L (pw_g h 125 2).toNat).2.1 (pt_TX 1 L (pw_g h 125 2).toNat).2.2.1 (pt_TX 1 L (pw_g h 125 2).toNat).2.2.2 ∧ pt_LV h h' ix))))) := by
  have E : pm_ent 277 = some (2, 3, 12, 0, pmc_277) := rfl
  have E0 : pw_E [125, 127, 128, 129, 146, 147, 157, 158, 159, 160, 161, 1002] h h := pw_E.rf _ _
  refine pw_ld E (pc' := 1) (st' := [.ref 141]) rfl (fun _ => rfl) ?_
  refine pw_ld E (pc' := 2) (st' := [pw_i 0, .ref 141]) rfl (fun _ => rfl) ?_
  refine pw_putI I E (c := 125) (k := 0) (pc' := 5) rfl rfl rfl rfl (by omega) (by omega) (by omega) (by omega) rfl rfl ?_
  intro h1I h1E
  generalize h1w : pw_w h 125 0 (pw_i 0) = h1 at h1I h1E ⊢
  have h1F := E0.tr (h1E.wk (W' := [125, 127, 128, 129, 146, 147, 157, 158, 159, 160, 161, 1002]) (by first | rfl | simp))
  refine pw_ld E (pc' := 6) (st' := [pw_i ix]) rfl (fun _ => rfl) ?_
  refine pw_call (m' := 278) (As := [pw_i ix]) (rest := []) (ls'' := [some (pw_i ix)]) (Nat.le_trans (by decide) hd) E rfl (fun _ => pw_iS rfl rfl rfl) (rfl : pm_ent 278 = some (1, 1, 12, 1, pmc_278)) rfl rfl (cm_278 (pw_dp hd (by decide)) h1I (ix) (by omega) (by omega)) ?_
  rintro u3 v2 ⟨rfl, x4, rfl, hx4a, hx4b, hx4r⟩
  refine ⟨_, rfl, ?_⟩
  show pw X d h1 277 9 [some (.ref 141), some (pw_i ix), none] [pw_i x4] _
  change (x4 = 1 ∧ 0 ≤ ix ∧ ix ≤ 3) ∨ (x4 = 0 ∧ ¬ (0 ≤ ix ∧ ix ≤ 3)) at hx4r
  rcases (by omega : x4 = 1 ∨ x4 = 0) with hb5 | hb5
  · skip
    refine pw_if E (pc' := 19) rfl (by decide) (by omega) (by omega) ?_ ?_
    · intro hc6
      change x4 ≠ (0 : Int) at hc6
      refine pw_ld E (pc' := 20) (st' := [.ref 141]) rfl (fun _ => rfl) ?_
      obtain ⟨f7l, f7h, -⟩ := pw_obj (c := 125) h1I rfl
      refine pw_call (m' := 238) (As := [.ref 141]) (rest := []) (ls'' := [some (.ref 141), none, none, none, none, none, none]) (Nat.le_trans (by decide) hd) E rfl (fun _ => pw_iV rfl rfl rfl rfl (pw_cellI f7h rfl)) (rfl : pm_ent 238 = some (1, 7, 12, 4, pmc_238)) rfl rfl (cm_238_t (pw_dp hd (by decide)) h1I ) ?_
      rintro h8 v9 ⟨h8I, h8E, hqtok, rfl⟩
      refine ⟨_, rfl, ?_⟩
      have h8F := h1F.tr (h8E.wk (W' := [125, 127, 128, 129, 146, 147, 157, 158, 159, 160, 161, 1002]) (by first | rfl | simp))
      show pw X d h8 277 23 [some (.ref 141), some (pw_i ix), none] [] _
      obtain ⟨L, hA0, hz7, hz8, hsg, hLI, hKn, hPn, ht2⟩ := hqtok
      have hZ : pw_g h1 125 2 = pw_g h 125 2 := by rw [← h1w]; exact pw_g_ne (by omega)
      have hT : pw_g h1 126 = pw_g h 126 := funext fun j => by rw [← h1w]; exact pw_g_ne (by omega)
      rw [hZ, hT] at hsg
      rw [hZ] at hPn
      have hz0 : 0 ≤ pw_g h 125 2 := (pw_gI (c := 125) (k := 2) I rfl rfl).1
      have hAG := pt_AG.of hLI hKn hPn hz0
      have hnv : ∀ j : Nat, j < L.length → pw_g h8 127 j = 2 → 0 ≤ pw_gm h8 129 j ∧ pw_gm h8 129 j ≤ 9999 := fun j hj q => by obtain ⟨a, b, -⟩ := hLI j hj; rw [a] at q; rw [b]; exact hsg.nv j q
      have hTX := pt_text_ag (wr := 1) hAG (L.length + 1) 0 (fun _ => 0) (fun _ => []) (fun _ => 0) (by omega)
      have hWc : pt_WK h8 := hp1.E I h8F rfl
      have hKK : ∃ K : Nat → Int, K = pw_g h8 127 := ⟨_, rfl⟩
      have hVV : ∃ V : Nat → Int, V = pw_gm h8 129 := ⟨_, rfl⟩
      have hPP : ∃ P : Nat → Int, P = pw_g h8 128 := ⟨_, rfl⟩
      obtain ⟨K, hK⟩ := hKK
      obtain ⟨V, hV⟩ := hVV
      obtain ⟨P, hP⟩ := hPP
      rw [← hK, ← hV, ← hP] at hTX
      have hV0 := hnv
      rw [← hK, ← hV] at hnv
      rw [← hK] at hKn
      have hRR : ∃ R : pt_TR, R = pt_text 1 K V P (L.length + 1) 0 (fun _ => 0) (fun _ => []) (fun _ => 0) := ⟨_, rfl⟩
      obtain ⟨R, hR⟩ := hRR
      have hRX : R = pt_TX 1 L (pw_g h 125 2).toNat := hR.trans hTX
      have hnn : ∃ n : Nat, n = L.length := ⟨_, rfl⟩
      obtain ⟨n, hn⟩ := hnn
      rw [← hn] at hA0 hnv hV0 hR hKn
      refine pw_ld E (pc' := 24) (st' := [.ref 141]) rfl (fun _ => rfl) ?_
      refine pw_ld E (pc' := 25) (st' := [pw_i 0, .ref 141]) rfl (fun _ => rfl) ?_
      refine pw_putI h8I E (c := 125) (k := 32) (pc' := 28) rfl rfl rfl rfl (by omega) (by omega) (by omega) (by omega) rfl rfl ?_
      intro h10I h10E
      generalize h10w : pw_w h8 125 32 (pw_i 0) = h10 at h10I h10E ⊢
      have h10F := h8F.tr (h10E.wk (W' := [125, 127, 128, 129, 146, 147, 157, 158, 159, 160, 161, 1002]) (by first | rfl | simp))
      refine pw_ld E (pc' := 29) (st' := [.ref 141]) rfl (fun _ => rfl) ?_
      refine pw_ld E (pc' := 30) (st' := [pw_i 1, .ref 141]) rfl (fun _ => rfl) ?_
      refine pw_putZ h10I E (c := 125) (k := 45) (pc' := 33) rfl rfl rfl rfl (by omega) (by omega) (by omega) rfl rfl ?_
      intro h11I h11E
      generalize h11w : pw_w h10 125 45 (pw_i 1) = h11 at h11I h11E ⊢
      have h11F := h10F.tr (h11E.wk (W' := [125, 127, 128, 129, 146, 147, 157, 158, 159, 160, 161, 1002]) (by first | rfl | simp))
      refine pw_ld E (pc' := 34) (st' := [pw_i 0]) rfl (fun _ => rfl) ?_
      refine pw_istn E (pc' := 35) (ls' := [some (.ref 141), some (pw_i ix), some (pw_i 0)]) rfl rfl rfl rfl ?_
      refine pw_ld E (pc' := 36) (st' := [pw_i 0]) rfl (fun _ => rfl) ?_
      refine pw_ld E (pc' := 37) (st' := [pw_i 4, pw_i 0]) rfl (fun _ => rfl) ?_
      refine pw_if2 E (pc' := 53) rfl (by decide) (by decide) (by decide) (by decide) (by decide) ?_ ?_
      · intro hc12
        change (4 : Int) ≤ (0 : Int) at hc12
        exfalso; omega
      · intro hc13
        change ¬ ((4 : Int) ≤ (0 : Int)) at hc13
        refine pw_ld E (pc' := 41) (st' := [.ref 141]) rfl (fun _ => rfl) ?_
        refine pw_getR (b := 177) h11I E (c := 125) (k := 50) (pc' := 44) rfl rfl rfl rfl rfl rfl rfl ?_
        refine pw_ld E (pc' := 45) (st' := [pw_i 0, .ref 177]) rfl (fun _ => rfl) ?_
        refine pw_ld E (pc' := 46) (st' := [pw_i ((-1)), pw_i 0, .ref 177]) rfl (fun _ => rfl) ?_
        refine pw_ast0 h11I E (c := 161) (pc' := 47) rfl rfl rfl (by decide) rfl (by decide) (by omega) (by omega) rfl (by omega) (by omega) (by omega) (by omega) rfl ?_
        intro h14I h14E
        generalize h14w : pw_w h11 161 (Int.toNat 0) (pw_i ((-1))) = h14 at h14I h14E ⊢
        have h14F := h11F.tr (h14E.wk (W' := [125, 127, 128, 129, 146, 147, 157, 158, 159, 160, 161, 1002]) (by first | rfl | simp))
        refine pw_inc E (pc' := 50) (ls' := [some (.ref 141), some (pw_i ix), some (pw_i (0 + 1))]) rfl rfl rfl rfl ?_
        refine pw_goto E (pc' := 35) rfl (by decide) ?_
        refine pw_ld E (pc' := 36) (st' := [pw_i (0 + 1)]) rfl (fun _ => rfl) ?_
        refine pw_ld E (pc' := 37) (st' := [pw_i 4, pw_i (0 + 1)]) rfl (fun _ => rfl) ?_
        refine pw_if2 E (pc' := 53) rfl (by decide) (by decide) (by decide) (by decide) (by decide) ?_ ?_
        · intro hc15
          change (4 : Int) ≤ 0 + 1 at hc15
          exfalso; omega
        · intro hc16
          change ¬ ((4 : Int) ≤ 0 + 1) at hc16
          refine pw_ld E (pc' := 41) (st' := [.ref 141]) rfl (fun _ => rfl) ?_
          refine pw_getR (b := 177) h14I E (c := 125) (k := 50) (pc' := 44) rfl rfl rfl rfl rfl rfl rfl ?_
          refine pw_ld E (pc' := 45) (st' := [pw_i (0 + 1), .ref 177]) rfl (fun _ => rfl) ?_
          refine pw_ld E (pc' := 46) (st' := [pw_i ((-1)), pw_i (0 + 1), .ref 177]) rfl (fun _ => rfl) ?_
          refine pw_ast0 h14I E (c := 161) (pc' := 47) rfl rfl rfl (by decide) rfl (by decide) (by omega) (by omega) rfl (by omega) (by omega) (by omega) (by omega) rfl ?_
          intro h17I h17E
          generalize h17w : pw_w h14 161 (((0 + 1) : Int).toNat) (pw_i ((-1))) = h17 at h17I h17E ⊢
          have h17F := h14F.tr (h17E.wk (W' := [125, 127, 128, 129, 146, 147, 157, 158, 159, 160, 161, 1002]) (by first | rfl | simp))
          refine pw_inc E (pc' := 50) (ls' := [some (.ref 141), some (pw_i ix), some (pw_i ((0 + 1) + 1))]) rfl rfl rfl rfl ?_
          refine pw_goto E (pc' := 35) rfl (by decide) ?_
          refine pw_ld E (pc' := 36) (st' := [pw_i ((0 + 1) + 1)]) rfl (fun _ => rfl) ?_
          refine pw_ld E (pc' := 37) (st' := [pw_i 4, pw_i ((0 + 1) + 1)]) rfl (fun _ => rfl) ?_
          refine pw_if2 E (pc' := 53) rfl (by decide) (by decide) (by decide) (by decide) (by decide) ?_ ?_
          · intro hc18
            change (4 : Int) ≤ (0 + 1) + 1 at hc18
            exfalso; omega
          · intro hc19
            change ¬ ((4 : Int) ≤ (0 + 1) + 1) at hc19
            refine pw_ld E (pc' := 41) (st' := [.ref 141]) rfl (fun _ => rfl) ?_
            refine pw_getR (b := 177) h17I E (c := 125) (k := 50) (pc' := 44) rfl rfl rfl rfl rfl rfl rfl ?_
            refine pw_ld E (pc' := 45) (st' := [pw_i ((0 + 1) + 1), .ref 177]) rfl (fun _ => rfl) ?_
            refine pw_ld E (pc' := 46) (st' := [pw_i ((-1)), pw_i ((0 + 1) + 1), .ref 177]) rfl (fun _ => rfl) ?_
            refine pw_ast0 h17I E (c := 161) (pc' := 47) rfl rfl rfl (by decide) rfl (by decide) (by omega) (by omega) rfl (by omega) (by omega) (by omega) (by omega) rfl ?_
            intro h20I h20E
            generalize h20w : pw_w h17 161 ((((0 + 1) + 1) : Int).toNat) (pw_i ((-1))) = h20 at h20I h20E ⊢
            have h20F := h17F.tr (h20E.wk (W' := [125, 127, 128, 129, 146, 147, 157, 158, 159, 160, 161, 1002]) (by first | rfl | simp))
            refine pw_inc E (pc' := 50) (ls' := [some (.ref 141), some (pw_i ix), some (pw_i (((0 + 1) + 1) + 1))]) rfl rfl rfl rfl ?_
            refine pw_goto E (pc' := 35) rfl (by decide) ?_
            refine pw_ld E (pc' := 36) (st' := [pw_i (((0 + 1) + 1) + 1)]) rfl (fun _ => rfl) ?_
            refine pw_ld E (pc' := 37) (st' := [pw_i 4, pw_i (((0 + 1) + 1) + 1)]) rfl (fun _ => rfl) ?_
            refine pw_if2 E (pc' := 53) rfl (by decide) (by decide) (by decide) (by decide) (by decide) ?_ ?_
            · intro hc21
              change (4 : Int) ≤ ((0 + 1) + 1) + 1 at hc21
              exfalso; omega
            · intro hc22
              change ¬ ((4 : Int) ≤ ((0 + 1) + 1) + 1) at hc22
              refine pw_ld E (pc' := 41) (st' := [.ref 141]) rfl (fun _ => rfl) ?_
              refine pw_getR (b := 177) h20I E (c := 125) (k := 50) (pc' := 44) rfl rfl rfl rfl rfl rfl rfl ?_
              refine pw_ld E (pc' := 45) (st' := [pw_i (((0 + 1) + 1) + 1), .ref 177]) rfl (fun _ => rfl) ?_
              refine pw_ld E (pc' := 46) (st' := [pw_i ((-1)), pw_i (((0 + 1) + 1) + 1), .ref 177]) rfl (fun _ => rfl) ?_
              refine pw_ast0 h20I E (c := 161) (pc' := 47) rfl rfl rfl (by decide) rfl (by decide) (by omega) (by omega) rfl (by omega) (by omega) (by omega) (by omega) rfl ?_
              intro h23I h23E
              generalize h23w : pw_w h20 161 (((((0 + 1) + 1) + 1) : Int).toNat) (pw_i ((-1))) = h23 at h23I h23E ⊢
              have h23F := h20F.tr (h23E.wk (W' := [125, 127, 128, 129, 146, 147, 157, 158, 159, 160, 161, 1002]) (by first | rfl | simp))
              refine pw_inc E (pc' := 50) (ls' := [some (.ref 141), some (pw_i ix), some (pw_i ((((0 + 1) + 1) + 1) + 1))]) rfl rfl rfl rfl ?_
              refine pw_goto E (pc' := 35) rfl (by decide) ?_
              refine pw_ld E (pc' := 36) (st' := [pw_i ((((0 + 1) + 1) + 1) + 1)]) rfl (fun _ => rfl) ?_
              refine pw_ld E (pc' := 37) (st' := [pw_i 4, pw_i ((((0 + 1) + 1) + 1) + 1)]) rfl (fun _ => rfl) ?_
              refine pw_if2 E (pc' := 53) rfl (by decide) (by decide) (by decide) (by decide) (by decide) ?_ ?_
              · intro hc24
                change (4 : Int) ≤ (((0 + 1) + 1) + 1) + 1 at hc24
                have b7 : pw_g h23 125 7 = pw_g h8 125 7 := by rw [← h23w, pw_g_ne (by omega), ← h20w, pw_g_ne (by omega), ← h17w, pw_g_ne (by omega), ← h14w, pw_g_ne (by omega), ← h11w, pw_g_ne (by omega), ← h10w, pw_g_ne (by omega)]
                have b8 : pw_g h23 125 8 = pw_g h8 125 8 := by rw [← h23w, pw_g_ne (by omega), ← h20w, pw_g_ne (by omega), ← h17w, pw_g_ne (by omega), ← h14w, pw_g_ne (by omega), ← h11w, pw_g_ne (by omega), ← h10w, pw_g_ne (by omega)]
                have b9 : pw_g h23 125 32 = pw_g h10 125 32 := by rw [← h23w, pw_g_ne (by omega), ← h20w, pw_g_ne (by omega), ← h17w, pw_g_ne (by omega), ← h14w, pw_g_ne (by omega), ← h11w, pw_g_ne (by omega)]
                have bc : pw_g h10 125 32 = 0 := by rw [← h10w]; exact pw_g_eq (c := 125) (k := 32) h8I rfl rfl (by omega) (by omega)
                have hl25 : ∀ j : Nat, pw_g h23 127 j = pw_g h8 127 j := fun j => ((((((by rw [← h23w]; exact pw_g_ne (by omega) : pw_g h23 127 j = pw_g h20 127 j)).trans (by rw [← h20w]; exact pw_g_ne (by omega) : pw_g h20 127 j = pw_g h17 127 j)).trans (by rw [← h17w]; exact pw_g_ne (by omega) : pw_g h17 127 j = pw_g h14 127 j)).trans (by rw [← h14w]; exact pw_g_ne (by omega) : pw_g h14 127 j = pw_g h11 127 j)).trans (by rw [← h11w]; exact pw_g_ne (by omega) : pw_g h11 127 j = pw_g h10 127 j)).trans (by rw [← h10w]; exact pw_g_ne (by omega) : pw_g h10 127 j = pw_g h8 127 j)
                have bA : pw_A n h23 := ⟨hA0.1, by rw [hl25]; exact hA0.2.1, by omega, by omega, by omega, by omega⟩
                have bV : pw_NV n h23 := fun j hj hq => by rw [← h23w, pw_gm_ne (by omega), ← h20w, pw_gm_ne (by omega), ← h17w, pw_gm_ne (by omega), ← h14w, pw_gm_ne (by omega), ← h11w, pw_gm_ne (by omega), ← h10w, pw_gm_ne (by omega)]; exact hV0 j hj (by rw [← hl25]; exact hq)
                have bl0 : pw_g h23 161 0 = -1 := by rw [← h23w, pw_g_ne (by decide), ← h20w, pw_g_ne (by decide), ← h17w, pw_g_ne (by decide), ← h14w]; exact pw_g_eqA h11I rfl (by decide) (by decide) (by decide)
                have bl1 : pw_g h23 161 1 = -1 := by rw [← h23w, pw_g_ne (by decide), ← h20w, pw_g_ne (by decide), ← h17w]; exact pw_g_eqA h14I rfl (by decide) (by decide) (by decide)
                have bl2 : pw_g h23 161 2 = -1 := by rw [← h23w, pw_g_ne (by decide), ← h20w]; exact pw_g_eqA h17I rfl (by decide) (by decide) (by decide)
                have bl3 : pw_g h23 161 3 = -1 := by rw [← h23w]; exact pw_g_eqA h20I rfl (by decide) (by decide) (by decide)
                have bL : pw_Lw h23 := ⟨Or.inl (by omega), by omega, by omega, by omega⟩
                have hl26 : ∀ j : Nat, pw_g h23 145 j = pw_g h 145 j := fun j => ((((((((by rw [← h23w]; exact pw_g_ne (by omega) : pw_g h23 145 j = pw_g h20 145 j)).trans (by rw [← h20w]; exact pw_g_ne (by omega) : pw_g h20 145 j = pw_g h17 145 j)).trans (by rw [← h17w]; exact pw_g_ne (by omega) : pw_g h17 145 j = pw_g h14 145 j)).trans (by rw [← h14w]; exact pw_g_ne (by omega) : pw_g h14 145 j = pw_g h11 145 j)).trans (by rw [← h11w]; exact pw_g_ne (by omega) : pw_g h11 145 j = pw_g h10 145 j)).trans (by rw [← h10w]; exact pw_g_ne (by omega) : pw_g h10 145 j = pw_g h8 145 j)).trans (pw_Eg (c := 145) h1I h8E rfl rfl j : pw_g h8 145 j = pw_g h1 145 j)).trans (by rw [← h1w]; exact pw_g_ne (by omega) : pw_g h1 145 j = pw_g h 145 j)
                have hl27 : ∀ j : Nat, pw_g h23 146 j = pw_g h 146 j := fun j => ((((((((by rw [← h23w]; exact pw_g_ne (by omega) : pw_g h23 146 j = pw_g h20 146 j)).trans (by rw [← h20w]; exact pw_g_ne (by omega) : pw_g h20 146 j = pw_g h17 146 j)).trans (by rw [← h17w]; exact pw_g_ne (by omega) : pw_g h17 146 j = pw_g h14 146 j)).trans (by rw [← h14w]; exact pw_g_ne (by omega) : pw_g h14 146 j = pw_g h11 146 j)).trans (by rw [← h11w]; exact pw_g_ne (by omega) : pw_g h11 146 j = pw_g h10 146 j)).trans (by rw [← h10w]; exact pw_g_ne (by omega) : pw_g h10 146 j = pw_g h8 146 j)).trans (pw_Eg (c := 146) h1I h8E rfl rfl j : pw_g h8 146 j = pw_g h1 146 j)).trans (by rw [← h1w]; exact pw_g_ne (by omega) : pw_g h1 146 j = pw_g h 146 j)
                have hl28 : ∀ j : Nat, pw_g h23 147 j = pw_g h 147 j := fun j => ((((((((by rw [← h23w]; exact pw_g_ne (by omega) : pw_g h23 147 j = pw_g h20 147 j)).trans (by rw [← h20w]; exact pw_g_ne (by omega) : pw_g h20 147 j = pw_g h17 147 j)).trans (by rw [← h17w]; exact pw_g_ne (by omega) : pw_g h17 147 j = pw_g h14 147 j)).trans (by rw [← h14w]; exact pw_g_ne (by omega) : pw_g h14 147 j = pw_g h11 147 j)).trans (by rw [← h11w]; exact pw_g_ne (by omega) : pw_g h11 147 j = pw_g h10 147 j)).trans (by rw [← h10w]; exact pw_g_ne (by omega) : pw_g h10 147 j = pw_g h8 147 j)).trans (pw_Eg (c := 147) h1I h8E rfl rfl j : pw_g h8 147 j = pw_g h1 147 j)).trans (by rw [← h1w]; exact pw_g_ne (by omega) : pw_g h1 147 j = pw_g h 147 j)
                have hl29 : ∀ j : Nat, pw_g h23 157 j = pw_g h 157 j := fun j => ((((((((by rw [← h23w]; exact pw_g_ne (by omega) : pw_g h23 157 j = pw_g h20 157 j)).trans (by rw [← h20w]; exact pw_g_ne (by omega) : pw_g h20 157 j = pw_g h17 157 j)).trans (by rw [← h17w]; exact pw_g_ne (by omega) : pw_g h17 157 j = pw_g h14 157 j)).trans (by rw [← h14w]; exact pw_g_ne (by omega) : pw_g h14 157 j = pw_g h11 157 j)).trans (by rw [← h11w]; exact pw_g_ne (by omega) : pw_g h11 157 j = pw_g h10 157 j)).trans (by rw [← h10w]; exact pw_g_ne (by omega) : pw_g h10 157 j = pw_g h8 157 j)).trans (pw_Eg (c := 157) h1I h8E rfl rfl j : pw_g h8 157 j = pw_g h1 157 j)).trans (by rw [← h1w]; exact pw_g_ne (by omega) : pw_g h1 157 j = pw_g h 157 j)
                have bO : pw_O h h23 := ⟨fun j _ => hl26 j, fun j _ => ⟨hl27 j, hl28 j⟩, hl29⟩
                have bE : pw_E [125, 161] h8 h23 := ((((((h10E.wk (W' := [125, 161]) (by first | rfl | simp)).tr (h11E.wk (W' := [125, 161]) (by first | rfl | simp))).tr (h14E.wk (W' := [125, 161]) (by first | rfl | simp))).tr (h17E.wk (W' := [125, 161]) (by first | rfl | simp))).tr (h20E.wk (W' := [125, 161]) (by first | rfl | simp))).tr (h23E.wk (W' := [125, 161]) (by first | rfl | simp)))
                have b45 : pw_g h23 125 45 = pw_g h11 125 45 := by rw [← h23w, pw_g_ne (by omega), ← h20w, pw_g_ne (by omega), ← h17w, pw_g_ne (by omega), ← h14w, pw_g_ne (by omega)]
                have b45z : pw_g h11 125 45 = 1 := by rw [← h11w]; exact pw_g_eq (c := 125) (k := 45) h10I rfl rfl (by omega) (by omega)
                have bT : pt_TK K V P 1 h23 := by rw [hK, hV, hP]; exact pt_TK.mk h8I bE hWc rfl (b45.trans b45z)
                have b2 : pw_g h23 125 2 = 0 := (pt_e2 bE rfl).trans ht2
                have bR : pt_RW K V P n R h23 := by rw [hR]; exact pt_RW.z (by omega) (by omega) bl0 bl1 bl2 bl3
                have bO8 : pt_O8 h h23 := fun j => ⟨by rw [← h23w, pw_g_ne (by omega), ← h20w, pw_g_ne (by omega), ← h17w, pw_g_ne (by omega), ← h14w, pw_g_ne (by omega), ← h11w, pw_g_ne (by omega), ← h10w, pw_g_ne (by omega), pw_Eg (c := 158) h1I h8E rfl rfl j, ← h1w, pw_g_ne (by omega)], by rw [← h23w, pw_g_ne (by omega), ← h20w, pw_g_ne (by omega), ← h17w, pw_g_ne (by omega), ← h14w, pw_g_ne (by omega), ← h11w, pw_g_ne (by omega), ← h10w, pw_g_ne (by omega), pw_Eg (c := 159) h1I h8E rfl rfl j, ← h1w, pw_g_ne (by omega)], by rw [← h23w, pw_g_ne (by omega), ← h20w, pw_g_ne (by omega), ← h17w, pw_g_ne (by omega), ← h14w, pw_g_ne (by omega), ← h11w, pw_g_ne (by omega), ← h10w, pw_g_ne (by omega), pw_Eg (c := 160) h1I h8E rfl rfl j, ← h1w, pw_g_ne (by omega)]⟩
                have L53 : ∀ (n53 : Nat)  (gh53 : pm_H), pw_I gh53 → pw_E [125, 127, 128, 129, 146, 147, 157, 158, 159, 160, 161, 1002] h gh53 → pw_A n gh53 → pw_g gh53 125 32 ≤ pw_g gh53 125 7 → (pw_g gh53 125 8 = 0 → pw_Lw gh53) → pw_O h gh53 → pw_NV n gh53 → pt_TK K V P 1 gh53 → pt_RW K V P n R gh53 → pw_g gh53 125 2 = 0 → pt_O8 h gh53 → ((n : Int) - pw_g gh53 125 7 + 1 - min (pw_g gh53 125 8) 1).toNat = n53 → pw X d gh53 277 53 [some (.ref 141), some (pw_i ix), some (pw_i ((((0 + 1) + 1) + 1) + 1))] [] (fun h' v => pw_I h' ∧ pw_E [125, 127, 128, 129, 146, 147, 157, 158, 159, 160, 161, 1002] h h' ∧ (pw_K h') ∧ (∃ a : Int, v = .inl (some (pw_i a)) ∧ (-2147483648) ≤ a ∧ a ≤ 2147483647 ∧ (pw_g h' 125 2 = 0 ∧ (¬ (0 ≤ ix ∧ ix ≤ 3) → a = -1 ∧ pw_O h h' ∧ pt_O8 h h') ∧ (0 ≤ ix → ix ≤ 3 → ∃ L : List pt_tok, pt_sg (pw_g h 126) (pw_g h 125 2).toNat 0 L (pw_g h 125 2).toNat ∧ a = (pt_TX 1 L (pw_g h 125 2).toNat).1 ∧ (a ≠ 0 → pw_O h h' ∧ pt_O8 h h') ∧ (a = 0 → pt_WS h' ix (pt_TX 1 L (pw_g h 125 2).toNat).2.1 (pt_TX 1 L (pw_g h 125 2).toNat).2.2.1 (pt_TX 1 L (pw_g h 125 2).toNat).2.2.2 ∧ pt_LV h h' ix))))) := by
                  intro n53
                  induction n53 using Nat.strongRecOn with
                  | ind n53 ih53 =>
                    intro  gh53 I53 E53 hx53_0 hx53_1 hx53_2 hx53_3 hx53_4 hx53_5 hx53_6 hx53_7 hx53_8 hm53
                    refine pw_ld E (pc' := 54) (st' := [.ref 141]) rfl (fun _ => rfl) ?_
                    refine pw_getI2 I53 E (c := 125) (k := 8) (pc' := 57) rfl rfl rfl rfl rfl rfl (fun hf30a hf30b => ?_)
                    refine pw_if E (pc' := 79) rfl (by decide) (by omega) (by omega) ?_ ?_
                    · intro hc31
                      change pw_g gh53 125 8 ≠ (0 : Int) at hc31
                      have hA53 : pw_g gh53 125 7 ≤ n ∧ 0 ≤ pw_g gh53 125 8 ∧ 0 ≤ pw_g gh53 125 7 ∧ 0 ≤ pw_g gh53 125 32 := hx53_0.2.2
                      have hn1 : n ≤ 1000 := hx53_0.1
                      refine pw_ld E (pc' := 80) (st' := [.ref 141]) rfl (fun _ => rfl) ?_
                      refine pw_getI2 I53 E (c := 125) (k := 8) (pc' := 83) rfl rfl rfl rfl rfl rfl (fun hf32a hf32b => ?_)
                      refine pw_if E (pc' := 91) rfl (by decide) (by omega) (by omega) ?_ ?_
                      · intro hc33
                        change pw_g gh53 125 8 ≤ (0 : Int) at hc33
                        refine pw_ld E (pc' := 92) (st' := [.ref 141]) rfl (fun _ => rfl) ?_
                        refine pw_ld E (pc' := 93) (st' := [pw_i 5, .ref 141]) rfl (fun _ => rfl) ?_
                        refine pw_ld E (pc' := 94) (st' := [pw_i ix, pw_i 5, .ref 141]) rfl (fun _ => rfl) ?_
                        refine pw_add E (pc' := 95) rfl rfl ?_
                        obtain ⟨f34l, f34h, -⟩ := pw_obj (c := 125) I53 rfl
                        refine pw_call (m' := 258) (As := [.ref 141, pw_i (5 + ix)]) (rest := []) (ls'' := [some (.ref 141), some (pw_i (5 + ix)), none]) (Nat.le_trans (by decide) hd) E rfl (fun _ => pw_iV rfl rfl rfl rfl (pw_cellI f34h rfl)) (rfl : pm_ent 258 = some (2, 3, 12, 4, pmc_258)) rfl rfl (cm_258 (pw_dp hd (by decide)) I53 (5 + ix) (by omega) (by omega) (by omega) (by omega)) ?_
                        rintro h35 v36 ⟨h35I, h35E, hqkeep, rfl⟩
                        refine ⟨_, rfl, ?_⟩
                        have h35F := E53.tr (h35E.wk (W' := [125, 127, 128, 129, 146, 147, 157, 158, 159, 160, 161, 1002]) (by first | rfl | simp))
                        show pw X d h35 277 98 [some (.ref 141), some (pw_i ix), some (pw_i ((((0 + 1) + 1) + 1) + 1))] [] _
                        refine pw_ld E (pc' := 99) (st' := [.ref 141]) rfl (fun _ => rfl) ?_
                        refine pw_getR (b := 173) h35I E (c := 125) (k := 46) (pc' := 102) rfl rfl rfl rfl rfl rfl rfl ?_
                        refine pw_ld E (pc' := 103) (st' := [pw_i ix, .ref 173]) rfl (fun _ => rfl) ?_
                        refine pw_ld E (pc' := 104) (st' := [.ref 141, pw_i ix, .ref 173]) rfl (fun _ => rfl) ?_
                        refine pw_getR (b := 177) h35I E (c := 125) (k := 50) (pc' := 107) rfl rfl rfl rfl rfl rfl rfl ?_
                        refine pw_ld E (pc' := 108) (st' := [pw_i 0, .ref 177, pw_i ix, .ref 173]) rfl (fun _ => rfl) ?_
                        refine pw_ald2 h35I E (c := 161) (pc' := 109) rfl rfl rfl (by decide) rfl (by decide) (by omega) (by omega) rfl (fun hf37a hf37b => ?_)
                        refine pw_ast0 h35I E (c := 157) (pc' := 110) rfl rfl rfl (by decide) rfl (by decide) (by omega) (by omega) rfl (by omega) (by omega) (by omega) (by omega) rfl ?_
                        intro h38I h38E
                        generalize h38w : pw_w h35 157 (ix.toNat) (pw_i (pw_g h35 161 (Int.toNat 0))) = h38 at h38I h38E ⊢
                        have h38F := h35F.tr (h38E.wk (W' := [125, 127, 128, 129, 146, 147, 157, 158, 159, 160, 161, 1002]) (by first | rfl | simp))
                        have hl39 : ∀ j : Nat, pw_g h38 161 j = pw_g gh53 161 j := fun j => ((by rw [← h38w]; exact pw_g_ne (by omega) : pw_g h38 161 j = pw_g h35 161 j)).trans (pw_Eg (c := 161) I53 h35E rfl rfl j : pw_g h35 161 j = pw_g gh53 161 j)
                        have hr40 : pw_g h38 161 (Int.toNat 1) ≤ 11 := by rw [hl39]; exact (hx53_2 (by omega)).2.1
                        refine pw_ld E (pc' := 111) (st' := [.ref 141]) rfl (fun _ => rfl) ?_
                        refine pw_getR (b := 174) h38I E (c := 125) (k := 47) (pc' := 114) rfl rfl rfl rfl rfl rfl rfl ?_
                        refine pw_ld E (pc' := 115) (st' := [pw_i ix, .ref 174]) rfl (fun _ => rfl) ?_
                        refine pw_ld E (pc' := 116) (st' := [.ref 141, pw_i ix, .ref 174]) rfl (fun _ => rfl) ?_
                        refine pw_getR (b := 177) h38I E (c := 125) (k := 50) (pc' := 119) rfl rfl rfl rfl rfl rfl rfl ?_
                        refine pw_ld E (pc' := 120) (st' := [pw_i 1, .ref 177, pw_i ix, .ref 174]) rfl (fun _ => rfl) ?_
                        refine pw_ald2 h38I E (c := 161) (pc' := 121) rfl rfl rfl (by decide) rfl (by decide) (by omega) (by omega) rfl (fun hf41a hf41b => ?_)
                        refine pw_if E (pc' := 128) rfl (by decide) (by omega) (by omega) ?_ ?_
                        · intro hc42
                          change (0 : Int) ≤ pw_g h38 161 (Int.toNat 1) at hc42
                          refine pw_ld E (pc' := 129) (st' := [.ref 141, pw_i ix, .ref 174]) rfl (fun _ => rfl) ?_
                          refine pw_getR (b := 177) h38I E (c := 125) (k := 50) (pc' := 132) rfl rfl rfl rfl rfl rfl rfl ?_
                          refine pw_ld E (pc' := 133) (st' := [pw_i 1, .ref 177, pw_i ix, .ref 174]) rfl (fun _ => rfl) ?_
                          refine pw_ald2 h38I E (c := 161) (pc' := 134) rfl rfl rfl (by decide) rfl (by decide) (by omega) (by omega) rfl (fun hf43a hf43b => ?_)
                          refine pw_ast0 h38I E (c := 158) (pc' := 135) rfl rfl rfl (by decide) rfl (by decide) (by omega) (by omega) rfl (by omega) (by omega) (by omega) (by omega) rfl ?_
                          intro h44I h44E
                          generalize h44w : pw_w h38 158 (ix.toNat) (pw_i (pw_g h38 161 (Int.toNat 1))) = h44 at h44I h44E ⊢
                          have h44F := h38F.tr (h44E.wk (W' := [125, 127, 128, 129, 146, 147, 157, 158, 159, 160, 161, 1002]) (by first | rfl | simp))
                          have hl45 : ∀ j : Nat, pw_g h44 161 j = pw_g gh53 161 j := fun j => (((by rw [← h44w]; exact pw_g_ne (by omega) : pw_g h44 161 j = pw_g h38 161 j)).trans (by rw [← h38w]; exact pw_g_ne (by omega) : pw_g h38 161 j = pw_g h35 161 j)).trans (pw_Eg (c := 161) I53 h35E rfl rfl j : pw_g h35 161 j = pw_g gh53 161 j)
                          have hr46 : pw_g h44 161 (Int.toNat 2) ≤ 11 := by rw [hl45]; exact (hx53_2 (by omega)).2.2.1
                          refine pw_ld E (pc' := 136) (st' := [.ref 141]) rfl (fun _ => rfl) ?_
                          refine pw_getR (b := 175) h44I E (c := 125) (k := 48) (pc' := 139) rfl rfl rfl rfl rfl rfl rfl ?_
                          refine pw_ld E (pc' := 140) (st' := [pw_i ix, .ref 175]) rfl (fun _ => rfl) ?_
                          refine pw_ld E (pc' := 141) (st' := [.ref 141, pw_i ix, .ref 175]) rfl (fun _ => rfl) ?_
                          refine pw_getR (b := 177) h44I E (c := 125) (k := 50) (pc' := 144) rfl rfl rfl rfl rfl rfl rfl ?_
                          refine pw_ld E (pc' := 145) (st' := [pw_i 2, .ref 177, pw_i ix, .ref 175]) rfl (fun _ => rfl) ?_
                          refine pw_ald2 h44I E (c := 161) (pc' := 146) rfl rfl rfl (by decide) rfl (by decide) (by omega) (by omega) rfl (fun hf47a hf47b => ?_)
                          refine pw_if E (pc' := 154) rfl (by decide) (by omega) (by omega) ?_ ?_
                          · intro hc48
                            change (0 : Int) ≤ pw_g h44 161 (Int.toNat 2) at hc48
                            refine pw_ld E (pc' := 155) (st' := [.ref 141, pw_i ix, .ref 175]) rfl (fun _ => rfl) ?_
                            refine pw_getR (b := 177) h44I E (c := 125) (k := 50) (pc' := 158) rfl rfl rfl rfl rfl rfl rfl ?_
                            refine pw_ld E (pc' := 159) (st' := [pw_i 2, .ref 177, pw_i ix, .ref 175]) rfl (fun _ => rfl) ?_
                            refine pw_ald2 h44I E (c := 161) (pc' := 160) rfl rfl rfl (by decide) rfl (by decide) (by omega) (by omega) rfl (fun hf49a hf49b => ?_)
                            refine pw_ast0 h44I E (c := 159) (pc' := 161) rfl rfl rfl (by decide) rfl (by decide) (by omega) (by omega) rfl (by omega) (by omega) (by omega) (by omega) rfl ?_
                            intro h50I h50E
                            generalize h50w : pw_w h44 159 (ix.toNat) (pw_i (pw_g h44 161 (Int.toNat 2))) = h50 at h50I h50E ⊢
                            have h50F := h44F.tr (h50E.wk (W' := [125, 127, 128, 129, 146, 147, 157, 158, 159, 160, 161, 1002]) (by first | rfl | simp))
                            have hl51 : ∀ j : Nat, pw_g h50 161 j = pw_g gh53 161 j := fun j => ((((by rw [← h50w]; exact pw_g_ne (by omega) : pw_g h50 161 j = pw_g h44 161 j)).trans (by rw [← h44w]; exact pw_g_ne (by omega) : pw_g h44 161 j = pw_g h38 161 j)).trans (by rw [← h38w]; exact pw_g_ne (by omega) : pw_g h38 161 j = pw_g h35 161 j)).trans (pw_Eg (c := 161) I53 h35E rfl rfl j : pw_g h35 161 j = pw_g gh53 161 j)
                            have hr52 : pw_g h50 161 (Int.toNat 3) ≤ 10 := by rw [hl51]; exact (hx53_2 (by omega)).2.2.2
                            refine pw_ld E (pc' := 162) (st' := [.ref 141]) rfl (fun _ => rfl) ?_
                            refine pw_getR (b := 176) h50I E (c := 125) (k := 49) (pc' := 165) rfl rfl rfl rfl rfl rfl rfl ?_
                            refine pw_ld E (pc' := 166) (st' := [pw_i ix, .ref 176]) rfl (fun _ => rfl) ?_
                            refine pw_ld E (pc' := 167) (st' := [.ref 141, pw_i ix, .ref 176]) rfl (fun _ => rfl) ?_
                            refine pw_getR (b := 177) h50I E (c := 125) (k := 50) (pc' := 170) rfl rfl rfl rfl rfl rfl rfl ?_
                            refine pw_ld E (pc' := 171) (st' := [pw_i 3, .ref 177, pw_i ix, .ref 176]) rfl (fun _ => rfl) ?_
                            refine pw_ald2 h50I E (c := 161) (pc' := 172) rfl rfl rfl (by decide) rfl (by decide) (by omega) (by omega) rfl (fun hf53a hf53b => ?_)
                            refine pw_ast0 h50I E (c := 160) (pc' := 173) rfl rfl rfl (by decide) rfl (by decide) (by omega) (by omega) rfl (by omega) (by omega) (by omega) (by omega) rfl ?_
                            intro h54I h54E
                            generalize h54w : pw_w h50 160 (ix.toNat) (pw_i (pw_g h50 161 (Int.toNat 3))) = h54 at h54I h54E ⊢
                            have h54F := h50F.tr (h54E.wk (W' := [125, 127, 128, 129, 146, 147, 157, 158, 159, 160, 161, 1002]) (by first | rfl | simp))
                            refine pw_ld E (pc' := 174) (st' := [pw_i 0]) rfl (fun _ => rfl) ?_
                            refine pw_iret E rfl ?_
                            have hl55 : ∀ j : Nat, pw_g h35 161 j = pw_g gh53 161 j := fun j => (pw_Eg (c := 161) I53 h35E rfl rfl j : pw_g h35 161 j = pw_g gh53 161 j)
                            have hl56 : ∀ j : Nat, pw_g h54 145 j = pw_g gh53 145 j := fun j => (((((by rw [← h54w]; exact pw_g_ne (by omega) : pw_g h54 145 j = pw_g h50 145 j)).trans (by rw [← h50w]; exact pw_g_ne (by omega) : pw_g h50 145 j = pw_g h44 145 j)).trans (by rw [← h44w]; exact pw_g_ne (by omega) : pw_g h44 145 j = pw_g h38 145 j)).trans (by rw [← h38w]; exact pw_g_ne (by omega) : pw_g h38 145 j = pw_g h35 145 j)).trans (pw_Eg (c := 145) I53 h35E rfl rfl j : pw_g h35 145 j = pw_g gh53 145 j)
                            have hl57 : ∀ j : Nat, pw_g h54 146 j = pw_g h35 146 j := fun j => ((((by rw [← h54w]; exact pw_g_ne (by omega) : pw_g h54 146 j = pw_g h50 146 j)).trans (by rw [← h50w]; exact pw_g_ne (by omega) : pw_g h50 146 j = pw_g h44 146 j)).trans (by rw [← h44w]; exact pw_g_ne (by omega) : pw_g h44 146 j = pw_g h38 146 j)).trans (by rw [← h38w]; exact pw_g_ne (by omega) : pw_g h38 146 j = pw_g h35 146 j)
                            have hl58 : ∀ j : Nat, pw_g h54 147 j = pw_g h35 147 j := fun j => ((((by rw [← h54w]; exact pw_g_ne (by omega) : pw_g h54 147 j = pw_g h50 147 j)).trans (by rw [← h50w]; exact pw_g_ne (by omega) : pw_g h50 147 j = pw_g h44 147 j)).trans (by rw [← h44w]; exact pw_g_ne (by omega) : pw_g h44 147 j = pw_g h38 147 j)).trans (by rw [← h38w]; exact pw_g_ne (by omega) : pw_g h38 147 j = pw_g h35 147 j)
                            have hl59 : ∀ j : Nat, pw_g h54 157 j = pw_g h38 157 j := fun j => (((by rw [← h54w]; exact pw_g_ne (by omega) : pw_g h54 157 j = pw_g h50 157 j)).trans (by rw [← h50w]; exact pw_g_ne (by omega) : pw_g h50 157 j = pw_g h44 157 j)).trans (by rw [← h44w]; exact pw_g_ne (by omega) : pw_g h44 157 j = pw_g h38 157 j)
                            have hl60 : ∀ j : Nat, pw_g h35 157 j = pw_g gh53 157 j := fun j => (pw_Eg (c := 157) I53 h35E rfl rfl j : pw_g h35 157 j = pw_g gh53 157 j)
                            have hw0 : pw_g h38 157 (ix.toNat) = pw_g h35 161 (Int.toNat 0) := by rw [← h38w]; exact pw_g_eqA h35I rfl (by omega) (by omega) (by omega)
                            have hw1 : ∀ j : Nat, j ≠ ix.toNat → pw_g h38 157 j = pw_g h35 157 j := fun j hj => by rw [← h38w]; exact pw_g_ne (fun q => hj q.2.symm)
                            have hkc : pw_KC gh53 h54 (5 + ix) (pw_g gh53 125 32) := ⟨fun j hj => ⟨(hl57 _).trans (hqkeep.1 j hj).1, (hl58 _).trans (hqkeep.1 j hj).2⟩, fun j hj => ⟨(hl57 _).trans (hqkeep.2 j hj).1, (hl58 _).trans (hqkeep.2 j hj).2⟩⟩
                            have cE : pw_E [146, 147, 157, 158, 159, 160] gh53 h54 := (((((h35E.wk (W' := [146, 147, 157, 158, 159, 160]) (by first | rfl | simp)).tr (h38E.wk (W' := [146, 147, 157, 158, 159, 160]) (by first | rfl | simp))).tr (h44E.wk (W' := [146, 147, 157, 158, 159, 160]) (by first | rfl | simp))).tr (h50E.wk (W' := [146, 147, 157, 158, 159, 160]) (by first | rfl | simp))).tr (h54E.wk (W' := [146, 147, 157, 158, 159, 160]) (by first | rfl | simp)))
                            have hk0 : K (pw_g gh53 125 7).toNat = 0 := by rw [← hx53_5.1]; first | assumption | omega
                            obtain ⟨-, th, C, N, hTI, hMW⟩ := hx53_6.resolve_right (fun q => by have := q.1; omega)
                            have hRe := hTI.en (by omega) hk0
                            rw [hRX] at hRe
                            have a0 : pw_g h54 157 ix.toNat = pw_g h35 161 (Int.toNat 0) := by
                              rw [← h54w, pw_g_ne (by omega), ← h50w, pw_g_ne (by omega), ← h44w, pw_g_ne (by omega), ← h38w]
                              exact pw_g_eqA h35I rfl (by omega) (by omega) (by omega)
                            have b0 : ∀ j : Nat, j ≠ ix.toNat → pw_g h54 157 j = pw_g gh53 157 j := fun j hj => by rw [← h54w, pw_g_ne (by omega), ← h50w, pw_g_ne (by omega), ← h44w, pw_g_ne (by omega), ← h38w, pw_g_ne (fun q => hj q.2.symm), pw_Eg (c := 157) I53 h35E rfl rfl j]
                            have m0 : ∀ j : Nat, pw_g h35 161 j = pw_g gh53 161 j := fun j => by rw [pw_Eg (c := 161) I53 h35E rfl rfl j]
                            have a1 : pw_g h54 158 ix.toNat = pw_g h38 161 (Int.toNat 1) := by
                              rw [← h54w, pw_g_ne (by omega), ← h50w, pw_g_ne (by omega), ← h44w]
                              exact pw_g_eqA h38I rfl (by omega) (by omega) (by omega)
                            have b1 : ∀ j : Nat, j ≠ ix.toNat → pw_g h54 158 j = pw_g gh53 158 j := fun j hj => by rw [← h54w, pw_g_ne (by omega), ← h50w, pw_g_ne (by omega), ← h44w, pw_g_ne (fun q => hj q.2.symm), ← h38w, pw_g_ne (by omega), pw_Eg (c := 158) I53 h35E rfl rfl j]
                            have m1 : ∀ j : Nat, pw_g h38 161 j = pw_g gh53 161 j := fun j => by rw [← h38w, pw_g_ne (by omega), pw_Eg (c := 161) I53 h35E rfl rfl j]
                            have a2 : pw_g h54 159 ix.toNat = pw_g h44 161 (Int.toNat 2) := by
                              rw [← h54w, pw_g_ne (by omega), ← h50w]
                              exact pw_g_eqA h44I rfl (by omega) (by omega) (by omega)
                            have b2 : ∀ j : Nat, j ≠ ix.toNat → pw_g h54 159 j = pw_g gh53 159 j := fun j hj => by rw [← h54w, pw_g_ne (by omega), ← h50w, pw_g_ne (fun q => hj q.2.symm), ← h44w, pw_g_ne (by omega), ← h38w, pw_g_ne (by omega), pw_Eg (c := 159) I53 h35E rfl rfl j]
                            have m2 : ∀ j : Nat, pw_g h44 161 j = pw_g gh53 161 j := fun j => by rw [← h44w, pw_g_ne (by omega), ← h38w, pw_g_ne (by omega), pw_Eg (c := 161) I53 h35E rfl rfl j]
                            have a3 : pw_g h54 160 ix.toNat = pw_g h50 161 (Int.toNat 3) := by
                              rw [← h54w]
                              exact pw_g_eqA h50I rfl (by omega) (by omega) (by omega)
                            have b3 : ∀ j : Nat, j ≠ ix.toNat → pw_g h54 160 j = pw_g gh53 160 j := fun j hj => by rw [← h54w, pw_g_ne (fun q => hj q.2.symm), ← h50w, pw_g_ne (by omega), ← h44w, pw_g_ne (by omega), ← h38w, pw_g_ne (by omega), pw_Eg (c := 160) I53 h35E rfl rfl j]
                            have m3 : ∀ j : Nat, pw_g h50 161 j = pw_g gh53 161 j := fun j => by rw [← h50w, pw_g_ne (by omega), ← h44w, pw_g_ne (by omega), ← h38w, pw_g_ne (by omega), pw_Eg (c := 161) I53 h35E rfl rfl j]
                            have hx1 := m1 1
                            have hx2 := m2 2
                            have hWS : pt_WS h54 ix th C N := hMW.wri (by omega) (by omega) hkc (a0.trans (m0 0)) ⟨fun q => by have a1 := a1; have m1 : pw_g _ 161 (Int.toNat 1) = _ := m1 1; omega, fun q => by have m1 : pw_g _ 161 (Int.toNat 1) = _ := m1 1; omega⟩ ⟨fun q => by have m2 : pw_g _ 161 (Int.toNat 2) = _ := m2 2; omega, fun q => by have m2 : pw_g _ 161 (Int.toNat 2) = _ := m2 2; omega⟩ (a3.trans (m3 3))
                            have hLV : pt_LV h h54 ix := ⟨fun j hj => (show pw_g h54 145 j = pw_g gh53 145 j by rw [← h54w, pw_g_ne (by omega), ← h50w, pw_g_ne (by omega), ← h44w, pw_g_ne (by omega), ← h38w, pw_g_ne (by omega), pw_Eg (c := 145) I53 h35E rfl rfl j]).trans (hx53_3.1 j hj), fun j q1 q2 => ⟨(hkc.2 j (by omega)).1.trans (hx53_3.2.1 j q1).1, (hkc.2 j (by omega)).2.trans (hx53_3.2.1 j q1).2⟩, fun j hj => ⟨(b0 j hj).trans (hx53_3.2.2 j), (b1 j hj).trans (hx53_8 j).1, (b2 j hj).trans (hx53_8 j).2.1, (b3 j hj).trans (hx53_8 j).2.2⟩⟩
                            exact ⟨h54I, h54F, (hp0.of hx53_3.1 hx53_3.2.1 hx53_3.2.2).wri (L := pw_g gh53 161 0) (by omega) (by omega) (hx53_2 (by omega)).1 (by omega) ((hl59 _).trans (hw0.trans (hl55 0))) (fun j hj => (hl59 j).trans ((hw1 j hj).trans (hl60 j))) hkc hl56, ⟨_, rfl, by omega, by omega, ⟨(pt_e2 cE rfl).trans hx53_7, fun q => absurd ⟨by omega, by omega⟩ q, fun _ _ => ⟨L, hsg, by rw [hRe], fun q => absurd rfl q, fun _ => ⟨by rw [hRe]; exact hWS, hLV⟩⟩⟩⟩⟩
                          · intro hc61
                            change ¬ ((0 : Int) ≤ pw_g h44 161 (Int.toNat 2)) at hc61
                            refine pw_bip E (pc' := 151) rfl rfl (by decide) ?_
                            refine pw_goto E (pc' := 160) rfl (by decide) ?_
                            refine pw_ast0 h44I E (c := 159) (pc' := 161) rfl rfl rfl (by decide) rfl (by decide) (by omega) (by omega) rfl (by omega) (by omega) (by omega) (by omega) rfl ?_
                            intro h62I h62E
                            generalize h62w : pw_w h44 159 (ix.toNat) (pw_i 11) = h62 at h62I h62E ⊢
                            have h62F := h44F.tr (h62E.wk (W' := [125, 127, 128, 129, 146, 147, 157, 158, 159, 160, 161, 1002]) (by first | rfl | simp))
                            have hl63 : ∀ j : Nat, pw_g h62 161 j = pw_g gh53 161 j := fun j => ((((by rw [← h62w]; exact pw_g_ne (by omega) : pw_g h62 161 j = pw_g h44 161 j)).trans (by rw [← h44w]; exact pw_g_ne (by omega) : pw_g h44 161 j = pw_g h38 161 j)).trans (by rw [← h38w]; exact pw_g_ne (by omega) : pw_g h38 161 j = pw_g h35 161 j)).trans (pw_Eg (c := 161) I53 h35E rfl rfl j : pw_g h35 161 j = pw_g gh53 161 j)
                            have hr64 : pw_g h62 161 (Int.toNat 3) ≤ 10 := by rw [hl63]; exact (hx53_2 (by omega)).2.2.2
                            refine pw_ld E (pc' := 162) (st' := [.ref 141]) rfl (fun _ => rfl) ?_
                            refine pw_getR (b := 176) h62I E (c := 125) (k := 49) (pc' := 165) rfl rfl rfl rfl rfl rfl rfl ?_
                            refine pw_ld E (pc' := 166) (st' := [pw_i ix, .ref 176]) rfl (fun _ => rfl) ?_
                            refine pw_ld E (pc' := 167) (st' := [.ref 141, pw_i ix, .ref 176]) rfl (fun _ => rfl) ?_
                            refine pw_getR (b := 177) h62I E (c := 125) (k := 50) (pc' := 170) rfl rfl rfl rfl rfl rfl rfl ?_
                            refine pw_ld E (pc' := 171) (st' := [pw_i 3, .ref 177, pw_i ix, .ref 176]) rfl (fun _ => rfl) ?_
                            refine pw_ald2 h62I E (c := 161) (pc' := 172) rfl rfl rfl (by decide) rfl (by decide) (by omega) (by omega) rfl (fun hf65a hf65b => ?_)
                            refine pw_ast0 h62I E (c := 160) (pc' := 173) rfl rfl rfl (by decide) rfl (by decide) (by omega) (by omega) rfl (by omega) (by omega) (by omega) (by omega) rfl ?_
                            intro h66I h66E
                            generalize h66w : pw_w h62 160 (ix.toNat) (pw_i (pw_g h62 161 (Int.toNat 3))) = h66 at h66I h66E ⊢
                            have h66F := h62F.tr (h66E.wk (W' := [125, 127, 128, 129, 146, 147, 157, 158, 159, 160, 161, 1002]) (by first | rfl | simp))
                            refine pw_ld E (pc' := 174) (st' := [pw_i 0]) rfl (fun _ => rfl) ?_
                            refine pw_iret E rfl ?_
                            have hl67 : ∀ j : Nat, pw_g h35 161 j = pw_g gh53 161 j := fun j => (pw_Eg (c := 161) I53 h35E rfl rfl j : pw_g h35 161 j = pw_g gh53 161 j)
                            have hl68 : ∀ j : Nat, pw_g h66 145 j = pw_g gh53 145 j := fun j => (((((by rw [← h66w]; exact pw_g_ne (by omega) : pw_g h66 145 j = pw_g h62 145 j)).trans (by rw [← h62w]; exact pw_g_ne (by omega) : pw_g h62 145 j = pw_g h44 145 j)).trans (by rw [← h44w]; exact pw_g_ne (by omega) : pw_g h44 145 j = pw_g h38 145 j)).trans (by rw [← h38w]; exact pw_g_ne (by omega) : pw_g h38 145 j = pw_g h35 145 j)).trans (pw_Eg (c := 145) I53 h35E rfl rfl j : pw_g h35 145 j = pw_g gh53 145 j)
                            have hl69 : ∀ j : Nat, pw_g h66 146 j = pw_g h35 146 j := fun j => ((((by rw [← h66w]; exact pw_g_ne (by omega) : pw_g h66 146 j = pw_g h62 146 j)).trans (by rw [← h62w]; exact pw_g_ne (by omega) : pw_g h62 146 j = pw_g h44 146 j)).trans (by rw [← h44w]; exact pw_g_ne (by omega) : pw_g h44 146 j = pw_g h38 146 j)).trans (by rw [← h38w]; exact pw_g_ne (by omega) : pw_g h38 146 j = pw_g h35 146 j)
                            have hl70 : ∀ j : Nat, pw_g h66 147 j = pw_g h35 147 j := fun j => ((((by rw [← h66w]; exact pw_g_ne (by omega) : pw_g h66 147 j = pw_g h62 147 j)).trans (by rw [← h62w]; exact pw_g_ne (by omega) : pw_g h62 147 j = pw_g h44 147 j)).trans (by rw [← h44w]; exact pw_g_ne (by omega) : pw_g h44 147 j = pw_g h38 147 j)).trans (by rw [← h38w]; exact pw_g_ne (by omega) : pw_g h38 147 j = pw_g h35 147 j)
                            have hl71 : ∀ j : Nat, pw_g h66 157 j = pw_g h38 157 j := fun j => (((by rw [← h66w]; exact pw_g_ne (by omega) : pw_g h66 157 j = pw_g h62 157 j)).trans (by rw [← h62w]; exact pw_g_ne (by omega) : pw_g h62 157 j = pw_g h44 157 j)).trans (by rw [← h44w]; exact pw_g_ne (by omega) : pw_g h44 157 j = pw_g h38 157 j)
                            have hl72 : ∀ j : Nat, pw_g h35 157 j = pw_g gh53 157 j := fun j => (pw_Eg (c := 157) I53 h35E rfl rfl j : pw_g h35 157 j = pw_g gh53 157 j)
                            have hw0 : pw_g h38 157 (ix.toNat) = pw_g h35 161 (Int.toNat 0) := by rw [← h38w]; exact pw_g_eqA h35I rfl (by omega) (by omega) (by omega)
                            have hw1 : ∀ j : Nat, j ≠ ix.toNat → pw_g h38 157 j = pw_g h35 157 j := fun j hj => by rw [← h38w]; exact pw_g_ne (fun q => hj q.2.symm)
                            have hkc : pw_KC gh53 h66 (5 + ix) (pw_g gh53 125 32) := ⟨fun j hj => ⟨(hl69 _).trans (hqkeep.1 j hj).1, (hl70 _).trans (hqkeep.1 j hj).2⟩, fun j hj => ⟨(hl69 _).trans (hqkeep.2 j hj).1, (hl70 _).trans (hqkeep.2 j hj).2⟩⟩
                            have cE : pw_E [146, 147, 157, 158, 159, 160] gh53 h66 := (((((h35E.wk (W' := [146, 147, 157, 158, 159, 160]) (by first | rfl | simp)).tr (h38E.wk (W' := [146, 147, 157, 158, 159, 160]) (by first | rfl | simp))).tr (h44E.wk (W' := [146, 147, 157, 158, 159, 160]) (by first | rfl | simp))).tr (h62E.wk (W' := [146, 147, 157, 158, 159, 160]) (by first | rfl | simp))).tr (h66E.wk (W' := [146, 147, 157, 158, 159, 160]) (by first | rfl | simp)))
                            have hk0 : K (pw_g gh53 125 7).toNat = 0 := by rw [← hx53_5.1]; first | assumption | omega
                            obtain ⟨-, th, C, N, hTI, hMW⟩ := hx53_6.resolve_right (fun q => by have := q.1; omega)
                            have hRe := hTI.en (by omega) hk0
                            rw [hRX] at hRe
                            have a0 : pw_g h66 157 ix.toNat = pw_g h35 161 (Int.toNat 0) := by
                              rw [← h66w, pw_g_ne (by omega), ← h62w, pw_g_ne (by omega), ← h44w, pw_g_ne (by omega), ← h38w]
                              exact pw_g_eqA h35I rfl (by omega) (by omega) (by omega)
                            have b0 : ∀ j : Nat, j ≠ ix.toNat → pw_g h66 157 j = pw_g gh53 157 j := fun j hj => by rw [← h66w, pw_g_ne (by omega), ← h62w, pw_g_ne (by omega), ← h44w, pw_g_ne (by omega), ← h38w, pw_g_ne (fun q => hj q.2.symm), pw_Eg (c := 157) I53 h35E rfl rfl j]
                            have m0 : ∀ j : Nat, pw_g h35 161 j = pw_g gh53 161 j := fun j => by rw [pw_Eg (c := 161) I53 h35E rfl rfl j]
                            have a1 : pw_g h66 158 ix.toNat = pw_g h38 161 (Int.toNat 1) := by
                              rw [← h66w, pw_g_ne (by omega), ← h62w, pw_g_ne (by omega), ← h44w]
                              exact pw_g_eqA h38I rfl (by omega) (by omega) (by omega)
                            have b1 : ∀ j : Nat, j ≠ ix.toNat → pw_g h66 158 j = pw_g gh53 158 j := fun j hj => by rw [← h66w, pw_g_ne (by omega), ← h62w, pw_g_ne (by omega), ← h44w, pw_g_ne (fun q => hj q.2.symm), ← h38w, pw_g_ne (by omega), pw_Eg (c := 158) I53 h35E rfl rfl j]
                            have m1 : ∀ j : Nat, pw_g h38 161 j = pw_g gh53 161 j := fun j => by rw [← h38w, pw_g_ne (by omega), pw_Eg (c := 161) I53 h35E rfl rfl j]
                            have a2 : pw_g h66 159 ix.toNat = 11 := by
                              rw [← h66w, pw_g_ne (by omega), ← h62w]
                              exact pw_g_eqA h44I rfl (by omega) (by omega) (by omega)
                            have b2 : ∀ j : Nat, j ≠ ix.toNat → pw_g h66 159 j = pw_g gh53 159 j := fun j hj => by rw [← h66w, pw_g_ne (by omega), ← h62w, pw_g_ne (fun q => hj q.2.symm), ← h44w, pw_g_ne (by omega), ← h38w, pw_g_ne (by omega), pw_Eg (c := 159) I53 h35E rfl rfl j]
                            have m2 : ∀ j : Nat, pw_g h44 161 j = pw_g gh53 161 j := fun j => by rw [← h44w, pw_g_ne (by omega), ← h38w, pw_g_ne (by omega), pw_Eg (c := 161) I53 h35E rfl rfl j]
                            have a3 : pw_g h66 160 ix.toNat = pw_g h62 161 (Int.toNat 3) := by
                              rw [← h66w]
                              exact pw_g_eqA h62I rfl (by omega) (by omega) (by omega)
                            have b3 : ∀ j : Nat, j ≠ ix.toNat → pw_g h66 160 j = pw_g gh53 160 j := fun j hj => by rw [← h66w, pw_g_ne (fun q => hj q.2.symm), ← h62w, pw_g_ne (by omega), ← h44w, pw_g_ne (by omega), ← h38w, pw_g_ne (by omega), pw_Eg (c := 160) I53 h35E rfl rfl j]
                            have m3 : ∀ j : Nat, pw_g h62 161 j = pw_g gh53 161 j := fun j => by rw [← h62w, pw_g_ne (by omega), ← h44w, pw_g_ne (by omega), ← h38w, pw_g_ne (by omega), pw_Eg (c := 161) I53 h35E rfl rfl j]
                            have hx1 := m1 1
                            have hx2 := m2 2
                            have hWS : pt_WS h66 ix th C N := hMW.wri (by omega) (by omega) hkc (a0.trans (m0 0)) ⟨fun q => by have a1 := a1; have m1 : pw_g _ 161 (Int.toNat 1) = _ := m1 1; omega, fun q => by have m1 : pw_g _ 161 (Int.toNat 1) = _ := m1 1; omega⟩ ⟨fun q => by have m2 : pw_g _ 161 (Int.toNat 2) = _ := m2 2; omega, fun q => by have m2 : pw_g _ 161 (Int.toNat 2) = _ := m2 2; omega⟩ (a3.trans (m3 3))
                            have hLV : pt_LV h h66 ix := ⟨fun j hj => (show pw_g h66 145 j = pw_g gh53 145 j by rw [← h66w, pw_g_ne (by omega), ← h62w, pw_g_ne (by omega), ← h44w, pw_g_ne (by omega), ← h38w, pw_g_ne (by omega), pw_Eg (c := 145) I53 h35E rfl rfl j]).trans (hx53_3.1 j hj), fun j q1 q2 => ⟨(hkc.2 j (by omega)).1.trans (hx53_3.2.1 j q1).1, (hkc.2 j (by omega)).2.trans (hx53_3.2.1 j q1).2⟩, fun j hj => ⟨(b0 j hj).trans (hx53_3.2.2 j), (b1 j hj).trans (hx53_8 j).1, (b2 j hj).trans (hx53_8 j).2.1, (b3 j hj).trans (hx53_8 j).2.2⟩⟩
                            exact ⟨h66I, h66F, (hp0.of hx53_3.1 hx53_3.2.1 hx53_3.2.2).wri (L := pw_g gh53 161 0) (by omega) (by omega) (hx53_2 (by omega)).1 (by omega) ((hl71 _).trans (hw0.trans (hl67 0))) (fun j hj => (hl71 j).trans ((hw1 j hj).trans (hl72 j))) hkc hl68, ⟨_, rfl, by omega, by omega, ⟨(pt_e2 cE rfl).trans hx53_7, fun q => absurd ⟨by omega, by omega⟩ q, fun _ _ => ⟨L, hsg, by rw [hRe], fun q => absurd rfl q, fun _ => ⟨by rw [hRe]; exact hWS, hLV⟩⟩⟩⟩⟩
                        · intro hc73
                          change ¬ ((0 : Int) ≤ pw_g h38 161 (Int.toNat 1)) at hc73
                          refine pw_ld E (pc' := 125) (st' := [pw_i 0, pw_i ix, .ref 174]) rfl (fun _ => rfl) ?_
                          refine pw_goto E (pc' := 134) rfl (by decide) ?_
                          refine pw_ast0 h38I E (c := 158) (pc' := 135) rfl rfl rfl (by decide) rfl (by decide) (by omega) (by omega) rfl (by omega) (by omega) (by omega) (by omega) rfl ?_
                          intro h74I h74E
                          generalize h74w : pw_w h38 158 (ix.toNat) (pw_i 0) = h74 at h74I h74E ⊢
                          have h74F := h38F.tr (h74E.wk (W' := [125, 127, 128, 129, 146, 147, 157, 158, 159, 160, 161, 1002]) (by first | rfl | simp))
                          have hl75 : ∀ j : Nat, pw_g h74 161 j = pw_g gh53 161 j := fun j => (((by rw [← h74w]; exact pw_g_ne (by omega) : pw_g h74 161 j = pw_g h38 161 j)).trans (by rw [← h38w]; exact pw_g_ne (by omega) : pw_g h38 161 j = pw_g h35 161 j)).trans (pw_Eg (c := 161) I53 h35E rfl rfl j : pw_g h35 161 j = pw_g gh53 161 j)
                          have hr76 : pw_g h74 161 (Int.toNat 2) ≤ 11 := by rw [hl75]; exact (hx53_2 (by omega)).2.2.1
                          refine pw_ld E (pc' := 136) (st' := [.ref 141]) rfl (fun _ => rfl) ?_
                          refine pw_getR (b := 175) h74I E (c := 125) (k := 48) (pc' := 139) rfl rfl rfl rfl rfl rfl rfl ?_
                          refine pw_ld E (pc' := 140) (st' := [pw_i ix, .ref 175]) rfl (fun _ => rfl) ?_
                          refine pw_ld E (pc' := 141) (st' := [.ref 141, pw_i ix, .ref 175]) rfl (fun _ => rfl) ?_
                          refine pw_getR (b := 177) h74I E (c := 125) (k := 50) (pc' := 144) rfl rfl rfl rfl rfl rfl rfl ?_
                          refine pw_ld E (pc' := 145) (st' := [pw_i 2, .ref 177, pw_i ix, .ref 175]) rfl (fun _ => rfl) ?_
                          refine pw_ald2 h74I E (c := 161) (pc' := 146) rfl rfl rfl (by decide) rfl (by decide) (by omega) (by omega) rfl (fun hf77a hf77b => ?_)
                          refine pw_if E (pc' := 154) rfl (by decide) (by omega) (by omega) ?_ ?_
                          · intro hc78
                            change (0 : Int) ≤ pw_g h74 161 (Int.toNat 2) at hc78
                            refine pw_ld E (pc' := 155) (st' := [.ref 141, pw_i ix, .ref 175]) rfl (fun _ => rfl) ?_
                            refine pw_getR (b := 177) h74I E (c := 125) (k := 50) (pc' := 158) rfl rfl rfl rfl rfl rfl rfl ?_
                            refine pw_ld E (pc' := 159) (st' := [pw_i 2, .ref 177, pw_i ix, .ref 175]) rfl (fun _ => rfl) ?_
                            refine pw_ald2 h74I E (c := 161) (pc' := 160) rfl rfl rfl (by decide) rfl (by decide) (by omega) (by omega) rfl (fun hf79a hf79b => ?_)
                            refine pw_ast0 h74I E (c := 159) (pc' := 161) rfl rfl rfl (by decide) rfl (by decide) (by omega) (by omega) rfl (by omega) (by omega) (by omega) (by omega) rfl ?_
                            intro h80I h80E
                            generalize h80w : pw_w h74 159 (ix.toNat) (pw_i (pw_g h74 161 (Int.toNat 2))) = h80 at h80I h80E ⊢
                            have h80F := h74F.tr (h80E.wk (W' := [125, 127, 128, 129, 146, 147, 157, 158, 159, 160, 161, 1002]) (by first | rfl | simp))
                            have hl81 : ∀ j : Nat, pw_g h80 161 j = pw_g gh53 161 j := fun j => ((((by rw [← h80w]; exact pw_g_ne (by omega) : pw_g h80 161 j = pw_g h74 161 j)).trans (by rw [← h74w]; exact pw_g_ne (by omega) : pw_g h74 161 j = pw_g h38 161 j)).trans (by rw [← h38w]; exact pw_g_ne (by omega) : pw_g h38 161 j = pw_g h35 161 j)).trans (pw_Eg (c := 161) I53 h35E rfl rfl j : pw_g h35 161 j = pw_g gh53 161 j)
                            have hr82 : pw_g h80 161 (Int.toNat 3) ≤ 10 := by rw [hl81]; exact (hx53_2 (by omega)).2.2.2
                            refine pw_ld E (pc' := 162) (st' := [.ref 141]) rfl (fun _ => rfl) ?_
                            refine pw_getR (b := 176) h80I E (c := 125) (k := 49) (pc' := 165) rfl rfl rfl rfl rfl rfl rfl ?_
                            refine pw_ld E (pc' := 166) (st' := [pw_i ix, .ref 176]) rfl (fun _ => rfl) ?_
                            refine pw_ld E (pc' := 167) (st' := [.ref 141, pw_i ix, .ref 176]) rfl (fun _ => rfl) ?_
                            refine pw_getR (b := 177) h80I E (c := 125) (k := 50) (pc' := 170) rfl rfl rfl rfl rfl rfl rfl ?_
                            refine pw_ld E (pc' := 171) (st' := [pw_i 3, .ref 177, pw_i ix, .ref 176]) rfl (fun _ => rfl) ?_
                            refine pw_ald2 h80I E (c := 161) (pc' := 172) rfl rfl rfl (by decide) rfl (by decide) (by omega) (by omega) rfl (fun hf83a hf83b => ?_)
                            refine pw_ast0 h80I E (c := 160) (pc' := 173) rfl rfl rfl (by decide) rfl (by decide) (by omega) (by omega) rfl (by omega) (by omega) (by omega) (by omega) rfl ?_
                            intro h84I h84E
                            generalize h84w : pw_w h80 160 (ix.toNat) (pw_i (pw_g h80 161 (Int.toNat 3))) = h84 at h84I h84E ⊢
                            have h84F := h80F.tr (h84E.wk (W' := [125, 127, 128, 129, 146, 147, 157, 158, 159, 160, 161, 1002]) (by first | rfl | simp))
                            refine pw_ld E (pc' := 174) (st' := [pw_i 0]) rfl (fun _ => rfl) ?_
                            refine pw_iret E rfl ?_
                            have hl85 : ∀ j : Nat, pw_g h35 161 j = pw_g gh53 161 j := fun j => (pw_Eg (c := 161) I53 h35E rfl rfl j : pw_g h35 161 j = pw_g gh53 161 j)
                            have hl86 : ∀ j : Nat, pw_g h84 145 j = pw_g gh53 145 j := fun j => (((((by rw [← h84w]; exact pw_g_ne (by omega) : pw_g h84 145 j = pw_g h80 145 j)).trans (by rw [← h80w]; exact pw_g_ne (by omega) : pw_g h80 145 j = pw_g h74 145 j)).trans (by rw [← h74w]; exact pw_g_ne (by omega) : pw_g h74 145 j = pw_g h38 145 j)).trans (by rw [← h38w]; exact pw_g_ne (by omega) : pw_g h38 145 j = pw_g h35 145 j)).trans (pw_Eg (c := 145) I53 h35E rfl rfl j : pw_g h35 145 j = pw_g gh53 145 j)
                            have hl87 : ∀ j : Nat, pw_g h84 146 j = pw_g h35 146 j := fun j => ((((by rw [← h84w]; exact pw_g_ne (by omega) : pw_g h84 146 j = pw_g h80 146 j)).trans (by rw [← h80w]; exact pw_g_ne (by omega) : pw_g h80 146 j = pw_g h74 146 j)).trans (by rw [← h74w]; exact pw_g_ne (by omega) : pw_g h74 146 j = pw_g h38 146 j)).trans (by rw [← h38w]; exact pw_g_ne (by omega) : pw_g h38 146 j = pw_g h35 146 j)
                            have hl88 : ∀ j : Nat, pw_g h84 147 j = pw_g h35 147 j := fun j => ((((by rw [← h84w]; exact pw_g_ne (by omega) : pw_g h84 147 j = pw_g h80 147 j)).trans (by rw [← h80w]; exact pw_g_ne (by omega) : pw_g h80 147 j = pw_g h74 147 j)).trans (by rw [← h74w]; exact pw_g_ne (by omega) : pw_g h74 147 j = pw_g h38 147 j)).trans (by rw [← h38w]; exact pw_g_ne (by omega) : pw_g h38 147 j = pw_g h35 147 j)
                            have hl89 : ∀ j : Nat, pw_g h84 157 j = pw_g h38 157 j := fun j => (((by rw [← h84w]; exact pw_g_ne (by omega) : pw_g h84 157 j = pw_g h80 157 j)).trans (by rw [← h80w]; exact pw_g_ne (by omega) : pw_g h80 157 j = pw_g h74 157 j)).trans (by rw [← h74w]; exact pw_g_ne (by omega) : pw_g h74 157 j = pw_g h38 157 j)
                            have hl90 : ∀ j : Nat, pw_g h35 157 j = pw_g gh53 157 j := fun j => (pw_Eg (c := 157) I53 h35E rfl rfl j : pw_g h35 157 j = pw_g gh53 157 j)
                            have hw0 : pw_g h38 157 (ix.toNat) = pw_g h35 161 (Int.toNat 0) := by rw [← h38w]; exact pw_g_eqA h35I rfl (by omega) (by omega) (by omega)
                            have hw1 : ∀ j : Nat, j ≠ ix.toNat → pw_g h38 157 j = pw_g h35 157 j := fun j hj => by rw [← h38w]; exact pw_g_ne (fun q => hj q.2.symm)
                            have hkc : pw_KC gh53 h84 (5 + ix) (pw_g gh53 125 32) := ⟨fun j hj => ⟨(hl87 _).trans (hqkeep.1 j hj).1, (hl88 _).trans (hqkeep.1 j hj).2⟩, fun j hj => ⟨(hl87 _).trans (hqkeep.2 j hj).1, (hl88 _).trans (hqkeep.2 j hj).2⟩⟩
                            have cE : pw_E [146, 147, 157, 158, 159, 160] gh53 h84 := (((((h35E.wk (W' := [146, 147, 157, 158, 159, 160]) (by first | rfl | simp)).tr (h38E.wk (W' := [146, 147, 157, 158, 159, 160]) (by first | rfl | simp))).tr (h74E.wk (W' := [146, 147, 157, 158, 159, 160]) (by first | rfl | simp))).tr (h80E.wk (W' := [146, 147, 157, 158, 159, 160]) (by first | rfl | simp))).tr (h84E.wk (W' := [146, 147, 157, 158, 159, 160]) (by first | rfl | simp)))
                            have hk0 : K (pw_g gh53 125 7).toNat = 0 := by rw [← hx53_5.1]; first | assumption | omega
                            obtain ⟨-, th, C, N, hTI, hMW⟩ := hx53_6.resolve_right (fun q => by have := q.1; omega)
                            have hRe := hTI.en (by omega) hk0
                            rw [hRX] at hRe
                            have a0 : pw_g h84 157 ix.toNat = pw_g h35 161 (Int.toNat 0) := by
                              rw [← h84w, pw_g_ne (by omega), ← h80w, pw_g_ne (by omega), ← h74w, pw_g_ne (by omega), ← h38w]
                              exact pw_g_eqA h35I rfl (by omega) (by omega) (by omega)
                            have b0 : ∀ j : Nat, j ≠ ix.toNat → pw_g h84 157 j = pw_g gh53 157 j := fun j hj => by rw [← h84w, pw_g_ne (by omega), ← h80w, pw_g_ne (by omega), ← h74w, pw_g_ne (by omega), ← h38w, pw_g_ne (fun q => hj q.2.symm), pw_Eg (c := 157) I53 h35E rfl rfl j]
                            have m0 : ∀ j : Nat, pw_g h35 161 j = pw_g gh53 161 j := fun j => by rw [pw_Eg (c := 161) I53 h35E rfl rfl j]
                            have a1 : pw_g h84 158 ix.toNat = 0 := by
                              rw [← h84w, pw_g_ne (by omega), ← h80w, pw_g_ne (by omega), ← h74w]
                              exact pw_g_eqA h38I rfl (by omega) (by omega) (by omega)
                            have b1 : ∀ j : Nat, j ≠ ix.toNat → pw_g h84 158 j = pw_g gh53 158 j := fun j hj => by rw [← h84w, pw_g_ne (by omega), ← h80w, pw_g_ne (by omega), ← h74w, pw_g_ne (fun q => hj q.2.symm), ← h38w, pw_g_ne (by omega), pw_Eg (c := 158) I53 h35E rfl rfl j]
                            have m1 : ∀ j : Nat, pw_g h38 161 j = pw_g gh53 161 j := fun j => by rw [← h38w, pw_g_ne (by omega), pw_Eg (c := 161) I53 h35E rfl rfl j]
                            have a2 : pw_g h84 159 ix.toNat = pw_g h74 161 (Int.toNat 2) := by
                              rw [← h84w, pw_g_ne (by omega), ← h80w]
                              exact pw_g_eqA h74I rfl (by omega) (by omega) (by omega)
                            have b2 : ∀ j : Nat, j ≠ ix.toNat → pw_g h84 159 j = pw_g gh53 159 j := fun j hj => by rw [← h84w, pw_g_ne (by omega), ← h80w, pw_g_ne (fun q => hj q.2.symm), ← h74w, pw_g_ne (by omega), ← h38w, pw_g_ne (by omega), pw_Eg (c := 159) I53 h35E rfl rfl j]
                            have m2 : ∀ j : Nat, pw_g h74 161 j = pw_g gh53 161 j := fun j => by rw [← h74w, pw_g_ne (by omega), ← h38w, pw_g_ne (by omega), pw_Eg (c := 161) I53 h35E rfl rfl j]
                            have a3 : pw_g h84 160 ix.toNat = pw_g h80 161 (Int.toNat 3) := by
                              rw [← h84w]
                              exact pw_g_eqA h80I rfl (by omega) (by omega) (by omega)
                            have b3 : ∀ j : Nat, j ≠ ix.toNat → pw_g h84 160 j = pw_g gh53 160 j := fun j hj => by rw [← h84w, pw_g_ne (fun q => hj q.2.symm), ← h80w, pw_g_ne (by omega), ← h74w, pw_g_ne (by omega), ← h38w, pw_g_ne (by omega), pw_Eg (c := 160) I53 h35E rfl rfl j]
                            have m3 : ∀ j : Nat, pw_g h80 161 j = pw_g gh53 161 j := fun j => by rw [← h80w, pw_g_ne (by omega), ← h74w, pw_g_ne (by omega), ← h38w, pw_g_ne (by omega), pw_Eg (c := 161) I53 h35E rfl rfl j]
                            have hx1 := m1 1
                            have hx2 := m2 2
                            have hWS : pt_WS h84 ix th C N := hMW.wri (by omega) (by omega) hkc (a0.trans (m0 0)) ⟨fun q => by have a1 := a1; have m1 : pw_g _ 161 (Int.toNat 1) = _ := m1 1; omega, fun q => by have m1 : pw_g _ 161 (Int.toNat 1) = _ := m1 1; omega⟩ ⟨fun q => by have m2 : pw_g _ 161 (Int.toNat 2) = _ := m2 2; omega, fun q => by have m2 : pw_g _ 161 (Int.toNat 2) = _ := m2 2; omega⟩ (a3.trans (m3 3))
                            have hLV : pt_LV h h84 ix := ⟨fun j hj => (show pw_g h84 145 j = pw_g gh53 145 j by rw [← h84w, pw_g_ne (by omega), ← h80w, pw_g_ne (by omega), ← h74w, pw_g_ne (by omega), ← h38w, pw_g_ne (by omega), pw_Eg (c := 145) I53 h35E rfl rfl j]).trans (hx53_3.1 j hj), fun j q1 q2 => ⟨(hkc.2 j (by omega)).1.trans (hx53_3.2.1 j q1).1, (hkc.2 j (by omega)).2.trans (hx53_3.2.1 j q1).2⟩, fun j hj => ⟨(b0 j hj).trans (hx53_3.2.2 j), (b1 j hj).trans (hx53_8 j).1, (b2 j hj).trans (hx53_8 j).2.1, (b3 j hj).trans (hx53_8 j).2.2⟩⟩
                            exact ⟨h84I, h84F, (hp0.of hx53_3.1 hx53_3.2.1 hx53_3.2.2).wri (L := pw_g gh53 161 0) (by omega) (by omega) (hx53_2 (by omega)).1 (by omega) ((hl89 _).trans (hw0.trans (hl85 0))) (fun j hj => (hl89 j).trans ((hw1 j hj).trans (hl90 j))) hkc hl86, ⟨_, rfl, by omega, by omega, ⟨(pt_e2 cE rfl).trans hx53_7, fun q => absurd ⟨by omega, by omega⟩ q, fun _ _ => ⟨L, hsg, by rw [hRe], fun q => absurd rfl q, fun _ => ⟨by rw [hRe]; exact hWS, hLV⟩⟩⟩⟩⟩
                          · intro hc91
                            change ¬ ((0 : Int) ≤ pw_g h74 161 (Int.toNat 2)) at hc91
                            refine pw_bip E (pc' := 151) rfl rfl (by decide) ?_
                            refine pw_goto E (pc' := 160) rfl (by decide) ?_
                            refine pw_ast0 h74I E (c := 159) (pc' := 161) rfl rfl rfl (by decide) rfl (by decide) (by omega) (by omega) rfl (by omega) (by omega) (by omega) (by omega) rfl ?_
                            intro h92I h92E
                            generalize h92w : pw_w h74 159 (ix.toNat) (pw_i 11) = h92 at h92I h92E ⊢
                            have h92F := h74F.tr (h92E.wk (W' := [125, 127, 128, 129, 146, 147, 157, 158, 159, 160, 161, 1002]) (by first | rfl | simp))
                            have hl93 : ∀ j : Nat, pw_g h92 161 j = pw_g gh53 161 j := fun j => ((((by rw [← h92w]; exact pw_g_ne (by omega) : pw_g h92 161 j = pw_g h74 161 j)).trans (by rw [← h74w]; exact pw_g_ne (by omega) : pw_g h74 161 j = pw_g h38 161 j)).trans (by rw [← h38w]; exact pw_g_ne (by omega) : pw_g h38 161 j = pw_g h35 161 j)).trans (pw_Eg (c := 161) I53 h35E rfl rfl j : pw_g h35 161 j = pw_g gh53 161 j)
                            have hr94 : pw_g h92 161 (Int.toNat 3) ≤ 10 := by rw [hl93]; exact (hx53_2 (by omega)).2.2.2
                            refine pw_ld E (pc' := 162) (st' := [.ref 141]) rfl (fun _ => rfl) ?_
                            refine pw_getR (b := 176) h92I E (c := 125) (k := 49) (pc' := 165) rfl rfl rfl rfl rfl rfl rfl ?_
                            refine pw_ld E (pc' := 166) (st' := [pw_i ix, .ref 176]) rfl (fun _ => rfl) ?_
                            refine pw_ld E (pc' := 167) (st' := [.ref 141, pw_i ix, .ref 176]) rfl (fun _ => rfl) ?_
                            refine pw_getR (b := 177) h92I E (c := 125) (k := 50) (pc' := 170) rfl rfl rfl rfl rfl rfl rfl ?_
                            refine pw_ld E (pc' := 171) (st' := [pw_i 3, .ref 177, pw_i ix, .ref 176]) rfl (fun _ => rfl) ?_
                            refine pw_ald2 h92I E (c := 161) (pc' := 172) rfl rfl rfl (by decide) rfl (by decide) (by omega) (by omega) rfl (fun hf95a hf95b => ?_)
                            refine pw_ast0 h92I E (c := 160) (pc' := 173) rfl rfl rfl (by decide) rfl (by decide) (by omega) (by omega) rfl (by omega) (by omega) (by omega) (by omega) rfl ?_
                            intro h96I h96E
                            generalize h96w : pw_w h92 160 (ix.toNat) (pw_i (pw_g h92 161 (Int.toNat 3))) = h96 at h96I h96E ⊢
                            have h96F := h92F.tr (h96E.wk (W' := [125, 127, 128, 129, 146, 147, 157, 158, 159, 160, 161, 1002]) (by first | rfl | simp))
                            refine pw_ld E (pc' := 174) (st' := [pw_i 0]) rfl (fun _ => rfl) ?_
                            refine pw_iret E rfl ?_
                            have hl97 : ∀ j : Nat, pw_g h35 161 j = pw_g gh53 161 j := fun j => (pw_Eg (c := 161) I53 h35E rfl rfl j : pw_g h35 161 j = pw_g gh53 161 j)
                            have hl98 : ∀ j : Nat, pw_g h96 145 j = pw_g gh53 145 j := fun j => (((((by rw [← h96w]; exact pw_g_ne (by omega) : pw_g h96 145 j = pw_g h92 145 j)).trans (by rw [← h92w]; exact pw_g_ne (by omega) : pw_g h92 145 j = pw_g h74 145 j)).trans (by rw [← h74w]; exact pw_g_ne (by omega) : pw_g h74 145 j = pw_g h38 145 j)).trans (by rw [← h38w]; exact pw_g_ne (by omega) : pw_g h38 145 j = pw_g h35 145 j)).trans (pw_Eg (c := 145) I53 h35E rfl rfl j : pw_g h35 145 j = pw_g gh53 145 j)
                            have hl99 : ∀ j : Nat, pw_g h96 146 j = pw_g h35 146 j := fun j => ((((by rw [← h96w]; exact pw_g_ne (by omega) : pw_g h96 146 j = pw_g h92 146 j)).trans (by rw [← h92w]; exact pw_g_ne (by omega) : pw_g h92 146 j = pw_g h74 146 j)).trans (by rw [← h74w]; exact pw_g_ne (by omega) : pw_g h74 146 j = pw_g h38 146 j)).trans (by rw [← h38w]; exact pw_g_ne (by omega) : pw_g h38 146 j = pw_g h35 146 j)
                            have hl100 : ∀ j : Nat, pw_g h96 147 j = pw_g h35 147 j := fun j => ((((by rw [← h96w]; exact pw_g_ne (by omega) : pw_g h96 147 j = pw_g h92 147 j)).trans (by rw [← h92w]; exact pw_g_ne (by omega) : pw_g h92 147 j = pw_g h74 147 j)).trans (by rw [← h74w]; exact pw_g_ne (by omega) : pw_g h74 147 j = pw_g h38 147 j)).trans (by rw [← h38w]; exact pw_g_ne (by omega) : pw_g h38 147 j = pw_g h35 147 j)
                            have hl101 : ∀ j : Nat, pw_g h96 157 j = pw_g h38 157 j := fun j => (((by rw [← h96w]; exact pw_g_ne (by omega) : pw_g h96 157 j = pw_g h92 157 j)).trans (by rw [← h92w]; exact pw_g_ne (by omega) : pw_g h92 157 j = pw_g h74 157 j)).trans (by rw [← h74w]; exact pw_g_ne (by omega) : pw_g h74 157 j = pw_g h38 157 j)
                            have hl102 : ∀ j : Nat, pw_g h35 157 j = pw_g gh53 157 j := fun j => (pw_Eg (c := 157) I53 h35E rfl rfl j : pw_g h35 157 j = pw_g gh53 157 j)
                            have hw0 : pw_g h38 157 (ix.toNat) = pw_g h35 161 (Int.toNat 0) := by rw [← h38w]; exact pw_g_eqA h35I rfl (by omega) (by omega) (by omega)
                            have hw1 : ∀ j : Nat, j ≠ ix.toNat → pw_g h38 157 j = pw_g h35 157 j := fun j hj => by rw [← h38w]; exact pw_g_ne (fun q => hj q.2.symm)
                            have hkc : pw_KC gh53 h96 (5 + ix) (pw_g gh53 125 32) := ⟨fun j hj => ⟨(hl99 _).trans (hqkeep.1 j hj).1, (hl100 _).trans (hqkeep.1 j hj).2⟩, fun j hj => ⟨(hl99 _).trans (hqkeep.2 j hj).1, (hl100 _).trans (hqkeep.2 j hj).2⟩⟩
                            have cE : pw_E [146, 147, 157, 158, 159, 160] gh53 h96 := (((((h35E.wk (W' := [146, 147, 157, 158, 159, 160]) (by first | rfl | simp)).tr (h38E.wk (W' := [146, 147, 157, 158, 159, 160]) (by first | rfl | simp))).tr (h74E.wk (W' := [146, 147, 157, 158, 159, 160]) (by first | rfl | simp))).tr (h92E.wk (W' := [146, 147, 157, 158, 159, 160]) (by first | rfl | simp))).tr (h96E.wk (W' := [146, 147, 157, 158, 159, 160]) (by first | rfl | simp)))
                            have hk0 : K (pw_g gh53 125 7).toNat = 0 := by rw [← hx53_5.1]; first | assumption | omega
                            obtain ⟨-, th, C, N, hTI, hMW⟩ := hx53_6.resolve_right (fun q => by have := q.1; omega)
                            have hRe := hTI.en (by omega) hk0
                            rw [hRX] at hRe
                            have a0 : pw_g h96 157 ix.toNat = pw_g h35 161 (Int.toNat 0) := by
                              rw [← h96w, pw_g_ne (by omega), ← h92w, pw_g_ne (by omega), ← h74w, pw_g_ne (by omega), ← h38w]
                              exact pw_g_eqA h35I rfl (by omega) (by omega) (by omega)
                            have b0 : ∀ j : Nat, j ≠ ix.toNat → pw_g h96 157 j = pw_g gh53 157 j := fun j hj => by rw [← h96w, pw_g_ne (by omega), ← h92w, pw_g_ne (by omega), ← h74w, pw_g_ne (by omega), ← h38w, pw_g_ne (fun q => hj q.2.symm), pw_Eg (c := 157) I53 h35E rfl rfl j]
                            have m0 : ∀ j : Nat, pw_g h35 161 j = pw_g gh53 161 j := fun j => by rw [pw_Eg (c := 161) I53 h35E rfl rfl j]
                            have a1 : pw_g h96 158 ix.toNat = 0 := by
                              rw [← h96w, pw_g_ne (by omega), ← h92w, pw_g_ne (by omega), ← h74w]
                              exact pw_g_eqA h38I rfl (by omega) (by omega) (by omega)
                            have b1 : ∀ j : Nat, j ≠ ix.toNat → pw_g h96 158 j = pw_g gh53 158 j := fun j hj => by rw [← h96w, pw_g_ne (by omega), ← h92w, pw_g_ne (by omega), ← h74w, pw_g_ne (fun q => hj q.2.symm), ← h38w, pw_g_ne (by omega), pw_Eg (c := 158) I53 h35E rfl rfl j]
                            have m1 : ∀ j : Nat, pw_g h38 161 j = pw_g gh53 161 j := fun j => by rw [← h38w, pw_g_ne (by omega), pw_Eg (c := 161) I53 h35E rfl rfl j]
                            have a2 : pw_g h96 159 ix.toNat = 11 := by
                              rw [← h96w, pw_g_ne (by omega), ← h92w]
                              exact pw_g_eqA h74I rfl (by omega) (by omega) (by omega)
                            have b2 : ∀ j : Nat, j ≠ ix.toNat → pw_g h96 159 j = pw_g gh53 159 j := fun j hj => by rw [← h96w, pw_g_ne (by omega), ← h92w, pw_g_ne (fun q => hj q.2.symm), ← h74w, pw_g_ne (by omega), ← h38w, pw_g_ne (by omega), pw_Eg (c := 159) I53 h35E rfl rfl j]
                            have m2 : ∀ j : Nat, pw_g h74 161 j = pw_g gh53 161 j := fun j => by rw [← h74w, pw_g_ne (by omega), ← h38w, pw_g_ne (by omega), pw_Eg (c := 161) I53 h35E rfl rfl j]
                            have a3 : pw_g h96 160 ix.toNat = pw_g h92 161 (Int.toNat 3) := by
                              rw [← h96w]
                              exact pw_g_eqA h92I rfl (by omega) (by omega) (by omega)
                            have b3 : ∀ j : Nat, j ≠ ix.toNat → pw_g h96 160 j = pw_g gh53 160 j := fun j hj => by rw [← h96w, pw_g_ne (fun q => hj q.2.symm), ← h92w, pw_g_ne (by omega), ← h74w, pw_g_ne (by omega), ← h38w, pw_g_ne (by omega), pw_Eg (c := 160) I53 h35E rfl rfl j]
                            have m3 : ∀ j : Nat, pw_g h92 161 j = pw_g gh53 161 j := fun j => by rw [← h92w, pw_g_ne (by omega), ← h74w, pw_g_ne (by omega), ← h38w, pw_g_ne (by omega), pw_Eg (c := 161) I53 h35E rfl rfl j]
                            have hx1 := m1 1
                            have hx2 := m2 2
                            have hWS : pt_WS h96 ix th C N := hMW.wri (by omega) (by omega) hkc (a0.trans (m0 0)) ⟨fun q => by have a1 := a1; have m1 : pw_g _ 161 (Int.toNat 1) = _ := m1 1; omega, fun q => by have m1 : pw_g _ 161 (Int.toNat 1) = _ := m1 1; omega⟩ ⟨fun q => by have m2 : pw_g _ 161 (Int.toNat 2) = _ := m2 2; omega, fun q => by have m2 : pw_g _ 161 (Int.toNat 2) = _ := m2 2; omega⟩ (a3.trans (m3 3))
                            have hLV : pt_LV h h96 ix := ⟨fun j hj => (show pw_g h96 145 j = pw_g gh53 145 j by rw [← h96w, pw_g_ne (by omega), ← h92w, pw_g_ne (by omega), ← h74w, pw_g_ne (by omega), ← h38w, pw_g_ne (by omega), pw_Eg (c := 145) I53 h35E rfl rfl j]).trans (hx53_3.1 j hj), fun j q1 q2 => ⟨(hkc.2 j (by omega)).1.trans (hx53_3.2.1 j q1).1, (hkc.2 j (by omega)).2.trans (hx53_3.2.1 j q1).2⟩, fun j hj => ⟨(b0 j hj).trans (hx53_3.2.2 j), (b1 j hj).trans (hx53_8 j).1, (b2 j hj).trans (hx53_8 j).2.1, (b3 j hj).trans (hx53_8 j).2.2⟩⟩
                            exact ⟨h96I, h96F, (hp0.of hx53_3.1 hx53_3.2.1 hx53_3.2.2).wri (L := pw_g gh53 161 0) (by omega) (by omega) (hx53_2 (by omega)).1 (by omega) ((hl101 _).trans (hw0.trans (hl97 0))) (fun j hj => (hl101 j).trans ((hw1 j hj).trans (hl102 j))) hkc hl98, ⟨_, rfl, by omega, by omega, ⟨(pt_e2 cE rfl).trans hx53_7, fun q => absurd ⟨by omega, by omega⟩ q, fun _ _ => ⟨L, hsg, by rw [hRe], fun q => absurd rfl q, fun _ => ⟨by rw [hRe]; exact hWS, hLV⟩⟩⟩⟩⟩
                      · intro hc103
                        change ¬ (pw_g gh53 125 8 ≤ (0 : Int)) at hc103
                        refine pw_ld E (pc' := 87) (st' := [.ref 141]) rfl (fun _ => rfl) ?_
                        refine pw_getI2 I53 E (c := 125) (k := 8) (pc' := 90) rfl rfl rfl rfl rfl rfl (fun hf104a hf104b => ?_)
                        refine pw_iret E rfl ?_
                        have hRf := (hx53_6.resolve_left (fun q => by have := q.1; omega)).2
                        exact ⟨I53, E53, (hp0.of hx53_3.1 hx53_3.2.1 hx53_3.2.2), ⟨_, rfl, by omega, by omega, ⟨hx53_7, fun q => absurd ⟨by omega, by omega⟩ q, fun _ _ => ⟨L, hsg, by rw [← hRX]; exact hRf.symm, fun _ => ⟨hx53_3, hx53_8⟩, fun q => by exfalso; omega⟩⟩⟩⟩
                    · intro hc105
                      change ¬ (pw_g gh53 125 8 ≠ (0 : Int)) at hc105
                      refine pw_ld E (pc' := 61) (st' := [.ref 141]) rfl (fun _ => rfl) ?_
                      refine pw_getR (b := 143) I53 E (c := 125) (k := 4) (pc' := 64) rfl rfl rfl rfl rfl rfl rfl ?_
                      refine pw_ld E (pc' := 65) (st' := [.ref 141, .ref 143]) rfl (fun _ => rfl) ?_
                      refine pw_getI2 I53 E (c := 125) (k := 7) (pc' := 68) rfl rfl rfl rfl rfl rfl (fun hf106a hf106b => ?_)
                      refine pw_ald2 I53 E (c := 127) (pc' := 69) rfl rfl rfl (by decide) rfl (by decide) (by omega) (by omega) rfl (fun hf107a hf107b => ?_)
                      refine pw_if E (pc' := 79) rfl (by decide) (by omega) (by omega) ?_ ?_
                      · intro hc108
                        change pw_g gh53 127 ((pw_g gh53 125 7).toNat) = (0 : Int) at hc108
                        have hA53 : pw_g gh53 125 7 ≤ n ∧ 0 ≤ pw_g gh53 125 8 ∧ 0 ≤ pw_g gh53 125 7 ∧ 0 ≤ pw_g gh53 125 32 := hx53_0.2.2
                        have hn1 : n ≤ 1000 := hx53_0.1
                        refine pw_ld E (pc' := 80) (st' := [.ref 141]) rfl (fun _ => rfl) ?_
                        refine pw_getI2 I53 E (c := 125) (k := 8) (pc' := 83) rfl rfl rfl rfl rfl rfl (fun hf109a hf109b => ?_)
                        refine pw_if E (pc' := 91) rfl (by decide) (by omega) (by omega) ?_ ?_
                        · intro hc110
                          change pw_g gh53 125 8 ≤ (0 : Int) at hc110
                          refine pw_ld E (pc' := 92) (st' := [.ref 141]) rfl (fun _ => rfl) ?_
                          refine pw_ld E (pc' := 93) (st' := [pw_i 5, .ref 141]) rfl (fun _ => rfl) ?_
                          refine pw_ld E (pc' := 94) (st' := [pw_i ix, pw_i 5, .ref 141]) rfl (fun _ => rfl) ?_
                          refine pw_add E (pc' := 95) rfl rfl ?_
                          obtain ⟨f111l, f111h, -⟩ := pw_obj (c := 125) I53 rfl
                          refine pw_call (m' := 258) (As := [.ref 141, pw_i (5 + ix)]) (rest := []) (ls'' := [some (.ref 141), some (pw_i (5 + ix)), none]) (Nat.le_trans (by decide) hd) E rfl (fun _ => pw_iV rfl rfl rfl rfl (pw_cellI f111h rfl)) (rfl : pm_ent 258 = some (2, 3, 12, 4, pmc_258)) rfl rfl (cm_258 (pw_dp hd (by decide)) I53 (5 + ix) (by omega) (by omega) (by omega) (by omega)) ?_
                          rintro h112 v113 ⟨h112I, h112E, hqkeep, rfl⟩
                          refine ⟨_, rfl, ?_⟩
                          have h112F := E53.tr (h112E.wk (W' := [125, 127, 128, 129, 146, 147, 157, 158, 159, 160, 161, 1002]) (by first | rfl | simp))
                          show pw X d h112 277 98 [some (.ref 141), some (pw_i ix), some (pw_i ((((0 + 1) + 1) + 1) + 1))] [] _
                          refine pw_ld E (pc' := 99) (st' := [.ref 141]) rfl (fun _ => rfl) ?_
                          refine pw_getR (b := 173) h112I E (c := 125) (k := 46) (pc' := 102) rfl rfl rfl rfl rfl rfl rfl ?_
                          refine pw_ld E (pc' := 103) (st' := [pw_i ix, .ref 173]) rfl (fun _ => rfl) ?_
                          refine pw_ld E (pc' := 104) (st' := [.ref 141, pw_i ix, .ref 173]) rfl (fun _ => rfl) ?_
                          refine pw_getR (b := 177) h112I E (c := 125) (k := 50) (pc' := 107) rfl rfl rfl rfl rfl rfl rfl ?_
                          refine pw_ld E (pc' := 108) (st' := [pw_i 0, .ref 177, pw_i ix, .ref 173]) rfl (fun _ => rfl) ?_
                          refine pw_ald2 h112I E (c := 161) (pc' := 109) rfl rfl rfl (by decide) rfl (by decide) (by omega) (by omega) rfl (fun hf114a hf114b => ?_)
                          refine pw_ast0 h112I E (c := 157) (pc' := 110) rfl rfl rfl (by decide) rfl (by decide) (by omega) (by omega) rfl (by omega) (by omega) (by omega) (by omega) rfl ?_
                          intro h115I h115E
                          generalize h115w : pw_w h112 157 (ix.toNat) (pw_i (pw_g h112 161 (Int.toNat 0))) = h115 at h115I h115E ⊢
                          have h115F := h112F.tr (h115E.wk (W' := [125, 127, 128, 129, 146, 147, 157, 158, 159, 160, 161, 1002]) (by first | rfl | simp))
                          have hl116 : ∀ j : Nat, pw_g h115 161 j = pw_g gh53 161 j := fun j => ((by rw [← h115w]; exact pw_g_ne (by omega) : pw_g h115 161 j = pw_g h112 161 j)).trans (pw_Eg (c := 161) I53 h112E rfl rfl j : pw_g h112 161 j = pw_g gh53 161 j)
                          have hr117 : pw_g h115 161 (Int.toNat 1) ≤ 11 := by rw [hl116]; exact (hx53_2 (by omega)).2.1
                          refine pw_ld E (pc' := 111) (st' := [.ref 141]) rfl (fun _ => rfl) ?_
                          refine pw_getR (b := 174) h115I E (c := 125) (k := 47) (pc' := 114) rfl rfl rfl rfl rfl rfl rfl ?_
                          refine pw_ld E (pc' := 115) (st' := [pw_i ix, .ref 174]) rfl (fun _ => rfl) ?_
                          refine pw_ld E (pc' := 116) (st' := [.ref 141, pw_i ix, .ref 174]) rfl (fun _ => rfl) ?_
                          refine pw_getR (b := 177) h115I E (c := 125) (k := 50) (pc' := 119) rfl rfl rfl rfl rfl rfl rfl ?_
                          refine pw_ld E (pc' := 120) (st' := [pw_i 1, .ref 177, pw_i ix, .ref 174]) rfl (fun _ => rfl) ?_
                          refine pw_ald2 h115I E (c := 161) (pc' := 121) rfl rfl rfl (by decide) rfl (by decide) (by omega) (by omega) rfl (fun hf118a hf118b => ?_)
                          refine pw_if E (pc' := 128) rfl (by decide) (by omega) (by omega) ?_ ?_
                          · intro hc119
                            change (0 : Int) ≤ pw_g h115 161 (Int.toNat 1) at hc119
                            refine pw_ld E (pc' := 129) (st' := [.ref 141, pw_i ix, .ref 174]) rfl (fun _ => rfl) ?_
                            refine pw_getR (b := 177) h115I E (c := 125) (k := 50) (pc' := 132) rfl rfl rfl rfl rfl rfl rfl ?_
                            refine pw_ld E (pc' := 133) (st' := [pw_i 1, .ref 177, pw_i ix, .ref 174]) rfl (fun _ => rfl) ?_
                            refine pw_ald2 h115I E (c := 161) (pc' := 134) rfl rfl rfl (by decide) rfl (by decide) (by omega) (by omega) rfl (fun hf120a hf120b => ?_)
                            refine pw_ast0 h115I E (c := 158) (pc' := 135) rfl rfl rfl (by decide) rfl (by decide) (by omega) (by omega) rfl (by omega) (by omega) (by omega) (by omega) rfl ?_
                            intro h121I h121E
                            generalize h121w : pw_w h115 158 (ix.toNat) (pw_i (pw_g h115 161 (Int.toNat 1))) = h121 at h121I h121E ⊢
                            have h121F := h115F.tr (h121E.wk (W' := [125, 127, 128, 129, 146, 147, 157, 158, 159, 160, 161, 1002]) (by first | rfl | simp))
                            have hl122 : ∀ j : Nat, pw_g h121 161 j = pw_g gh53 161 j := fun j => (((by rw [← h121w]; exact pw_g_ne (by omega) : pw_g h121 161 j = pw_g h115 161 j)).trans (by rw [← h115w]; exact pw_g_ne (by omega) : pw_g h115 161 j = pw_g h112 161 j)).trans (pw_Eg (c := 161) I53 h112E rfl rfl j : pw_g h112 161 j = pw_g gh53 161 j)
                            have hr123 : pw_g h121 161 (Int.toNat 2) ≤ 11 := by rw [hl122]; exact (hx53_2 (by omega)).2.2.1
                            refine pw_ld E (pc' := 136) (st' := [.ref 141]) rfl (fun _ => rfl) ?_
                            refine pw_getR (b := 175) h121I E (c := 125) (k := 48) (pc' := 139) rfl rfl rfl rfl rfl rfl rfl ?_
                            refine pw_ld E (pc' := 140) (st' := [pw_i ix, .ref 175]) rfl (fun _ => rfl) ?_
                            refine pw_ld E (pc' := 141) (st' := [.ref 141, pw_i ix, .ref 175]) rfl (fun _ => rfl) ?_
                            refine pw_getR (b := 177) h121I E (c := 125) (k := 50) (pc' := 144) rfl rfl rfl rfl rfl rfl rfl ?_
                            refine pw_ld E (pc' := 145) (st' := [pw_i 2, .ref 177, pw_i ix, .ref 175]) rfl (fun _ => rfl) ?_
                            refine pw_ald2 h121I E (c := 161) (pc' := 146) rfl rfl rfl (by decide) rfl (by decide) (by omega) (by omega) rfl (fun hf124a hf124b => ?_)
                            refine pw_if E (pc' := 154) rfl (by decide) (by omega) (by omega) ?_ ?_
                            · intro hc125
                              change (0 : Int) ≤ pw_g h121 161 (Int.toNat 2) at hc125
                              refine pw_ld E (pc' := 155) (st' := [.ref 141, pw_i ix, .ref 175]) rfl (fun _ => rfl) ?_
                              refine pw_getR (b := 177) h121I E (c := 125) (k := 50) (pc' := 158) rfl rfl rfl rfl rfl rfl rfl ?_
                              refine pw_ld E (pc' := 159) (st' := [pw_i 2, .ref 177, pw_i ix, .ref 175]) rfl (fun _ => rfl) ?_
                              refine pw_ald2 h121I E (c := 161) (pc' := 160) rfl rfl rfl (by decide) rfl (by decide) (by omega) (by omega) rfl (fun hf126a hf126b => ?_)
                              refine pw_ast0 h121I E (c := 159) (pc' := 161) rfl rfl rfl (by decide) rfl (by decide) (by omega) (by omega) rfl (by omega) (by omega) (by omega) (by omega) rfl ?_
                              intro h127I h127E
                              generalize h127w : pw_w h121 159 (ix.toNat) (pw_i (pw_g h121 161 (Int.toNat 2))) = h127 at h127I h127E ⊢
                              have h127F := h121F.tr (h127E.wk (W' := [125, 127, 128, 129, 146, 147, 157, 158, 159, 160, 161, 1002]) (by first | rfl | simp))
                              have hl128 : ∀ j : Nat, pw_g h127 161 j = pw_g gh53 161 j := fun j => ((((by rw [← h127w]; exact pw_g_ne (by omega) : pw_g h127 161 j = pw_g h121 161 j)).trans (by rw [← h121w]; exact pw_g_ne (by omega) : pw_g h121 161 j = pw_g h115 161 j)).trans (by rw [← h115w]; exact pw_g_ne (by omega) : pw_g h115 161 j = pw_g h112 161 j)).trans (pw_Eg (c := 161) I53 h112E rfl rfl j : pw_g h112 161 j = pw_g gh53 161 j)
                              have hr129 : pw_g h127 161 (Int.toNat 3) ≤ 10 := by rw [hl128]; exact (hx53_2 (by omega)).2.2.2
                              refine pw_ld E (pc' := 162) (st' := [.ref 141]) rfl (fun _ => rfl) ?_
                              refine pw_getR (b := 176) h127I E (c := 125) (k := 49) (pc' := 165) rfl rfl rfl rfl rfl rfl rfl ?_
                              refine pw_ld E (pc' := 166) (st' := [pw_i ix, .ref 176]) rfl (fun _ => rfl) ?_
                              refine pw_ld E (pc' := 167) (st' := [.ref 141, pw_i ix, .ref 176]) rfl (fun _ => rfl) ?_
                              refine pw_getR (b := 177) h127I E (c := 125) (k := 50) (pc' := 170) rfl rfl rfl rfl rfl rfl rfl ?_
                              refine pw_ld E (pc' := 171) (st' := [pw_i 3, .ref 177, pw_i ix, .ref 176]) rfl (fun _ => rfl) ?_
                              refine pw_ald2 h127I E (c := 161) (pc' := 172) rfl rfl rfl (by decide) rfl (by decide) (by omega) (by omega) rfl (fun hf130a hf130b => ?_)
                              refine pw_ast0 h127I E (c := 160) (pc' := 173) rfl rfl rfl (by decide) rfl (by decide) (by omega) (by omega) rfl (by omega) (by omega) (by omega) (by omega) rfl ?_
                              intro h131I h131E
                              generalize h131w : pw_w h127 160 (ix.toNat) (pw_i (pw_g h127 161 (Int.toNat 3))) = h131 at h131I h131E ⊢
                              have h131F := h127F.tr (h131E.wk (W' := [125, 127, 128, 129, 146, 147, 157, 158, 159, 160, 161, 1002]) (by first | rfl | simp))
                              refine pw_ld E (pc' := 174) (st' := [pw_i 0]) rfl (fun _ => rfl) ?_
                              refine pw_iret E rfl ?_
                              have hl132 : ∀ j : Nat, pw_g h112 161 j = pw_g gh53 161 j := fun j => (pw_Eg (c := 161) I53 h112E rfl rfl j : pw_g h112 161 j = pw_g gh53 161 j)
                              have hl133 : ∀ j : Nat, pw_g h131 145 j = pw_g gh53 145 j := fun j => (((((by rw [← h131w]; exact pw_g_ne (by omega) : pw_g h131 145 j = pw_g h127 145 j)).trans (by rw [← h127w]; exact pw_g_ne (by omega) : pw_g h127 145 j = pw_g h121 145 j)).trans (by rw [← h121w]; exact pw_g_ne (by omega) : pw_g h121 145 j = pw_g h115 145 j)).trans (by rw [← h115w]; exact pw_g_ne (by omega) : pw_g h115 145 j = pw_g h112 145 j)).trans (pw_Eg (c := 145) I53 h112E rfl rfl j : pw_g h112 145 j = pw_g gh53 145 j)
                              have hl134 : ∀ j : Nat, pw_g h131 146 j = pw_g h112 146 j := fun j => ((((by rw [← h131w]; exact pw_g_ne (by omega) : pw_g h131 146 j = pw_g h127 146 j)).trans (by rw [← h127w]; exact pw_g_ne (by omega) : pw_g h127 146 j = pw_g h121 146 j)).trans (by rw [← h121w]; exact pw_g_ne (by omega) : pw_g h121 146 j = pw_g h115 146 j)).trans (by rw [← h115w]; exact pw_g_ne (by omega) : pw_g h115 146 j = pw_g h112 146 j)
                              have hl135 : ∀ j : Nat, pw_g h131 147 j = pw_g h112 147 j := fun j => ((((by rw [← h131w]; exact pw_g_ne (by omega) : pw_g h131 147 j = pw_g h127 147 j)).trans (by rw [← h127w]; exact pw_g_ne (by omega) : pw_g h127 147 j = pw_g h121 147 j)).trans (by rw [← h121w]; exact pw_g_ne (by omega) : pw_g h121 147 j = pw_g h115 147 j)).trans (by rw [← h115w]; exact pw_g_ne (by omega) : pw_g h115 147 j = pw_g h112 147 j)
                              have hl136 : ∀ j : Nat, pw_g h131 157 j = pw_g h115 157 j := fun j => (((by rw [← h131w]; exact pw_g_ne (by omega) : pw_g h131 157 j = pw_g h127 157 j)).trans (by rw [← h127w]; exact pw_g_ne (by omega) : pw_g h127 157 j = pw_g h121 157 j)).trans (by rw [← h121w]; exact pw_g_ne (by omega) : pw_g h121 157 j = pw_g h115 157 j)
                              have hl137 : ∀ j : Nat, pw_g h112 157 j = pw_g gh53 157 j := fun j => (pw_Eg (c := 157) I53 h112E rfl rfl j : pw_g h112 157 j = pw_g gh53 157 j)
                              have hw0 : pw_g h115 157 (ix.toNat) = pw_g h112 161 (Int.toNat 0) := by rw [← h115w]; exact pw_g_eqA h112I rfl (by omega) (by omega) (by omega)
                              have hw1 : ∀ j : Nat, j ≠ ix.toNat → pw_g h115 157 j = pw_g h112 157 j := fun j hj => by rw [← h115w]; exact pw_g_ne (fun q => hj q.2.symm)
                              have hkc : pw_KC gh53 h131 (5 + ix) (pw_g gh53 125 32) := ⟨fun j hj => ⟨(hl134 _).trans (hqkeep.1 j hj).1, (hl135 _).trans (hqkeep.1 j hj).2⟩, fun j hj => ⟨(hl134 _).trans (hqkeep.2 j hj).1, (hl135 _).trans (hqkeep.2 j hj).2⟩⟩
                              have cE : pw_E [146, 147, 157, 158, 159, 160] gh53 h131 := (((((h112E.wk (W' := [146, 147, 157, 158, 159, 160]) (by first | rfl | simp)).tr (h115E.wk (W' := [146, 147, 157, 158, 159, 160]) (by first | rfl | simp))).tr (h121E.wk (W' := [146, 147, 157, 158, 159, 160]) (by first | rfl | simp))).tr (h127E.wk (W' := [146, 147, 157, 158, 159, 160]) (by first | rfl | simp))).tr (h131E.wk (W' := [146, 147, 157, 158, 159, 160]) (by first | rfl | simp)))
                              have hk0 : K (pw_g gh53 125 7).toNat = 0 := by rw [← hx53_5.1]; first | assumption | omega
                              obtain ⟨-, th, C, N, hTI, hMW⟩ := hx53_6.resolve_right (fun q => by have := q.1; omega)
                              have hRe := hTI.en (by omega) hk0
                              rw [hRX] at hRe
                              have a0 : pw_g h131 157 ix.toNat = pw_g h112 161 (Int.toNat 0) := by
                                rw [← h131w, pw_g_ne (by omega), ← h127w, pw_g_ne (by omega), ← h121w, pw_g_ne (by omega), ← h115w]
                                exact pw_g_eqA h112I rfl (by omega) (by omega) (by omega)
                              have b0 : ∀ j : Nat, j ≠ ix.toNat → pw_g h131 157 j = pw_g gh53 157 j := fun j hj => by rw [← h131w, pw_g_ne (by omega), ← h127w, pw_g_ne (by omega), ← h121w, pw_g_ne (by omega), ← h115w, pw_g_ne (fun q => hj q.2.symm), pw_Eg (c := 157) I53 h112E rfl rfl j]
                              have m0 : ∀ j : Nat, pw_g h112 161 j = pw_g gh53 161 j := fun j => by rw [pw_Eg (c := 161) I53 h112E rfl rfl j]
                              have a1 : pw_g h131 158 ix.toNat = pw_g h115 161 (Int.toNat 1) := by
                                rw [← h131w, pw_g_ne (by omega), ← h127w, pw_g_ne (by omega), ← h121w]
                                exact pw_g_eqA h115I rfl (by omega) (by omega) (by omega)
                              have b1 : ∀ j : Nat, j ≠ ix.toNat → pw_g h131 158 j = pw_g gh53 158 j := fun j hj => by rw [← h131w, pw_g_ne (by omega), ← h127w, pw_g_ne (by omega), ← h121w, pw_g_ne (fun q => hj q.2.symm), ← h115w, pw_g_ne (by omega), pw_Eg (c := 158) I53 h112E rfl rfl j]
                              have m1 : ∀ j : Nat, pw_g h115 161 j = pw_g gh53 161 j := fun j => by rw [← h115w, pw_g_ne (by omega), pw_Eg (c := 161) I53 h112E rfl rfl j]
                              have a2 : pw_g h131 159 ix.toNat = pw_g h121 161 (Int.toNat 2) := by
                                rw [← h131w, pw_g_ne (by omega), ← h127w]
                                exact pw_g_eqA h121I rfl (by omega) (by omega) (by omega)
                              have b2 : ∀ j : Nat, j ≠ ix.toNat → pw_g h131 159 j = pw_g gh53 159 j := fun j hj => by rw [← h131w, pw_g_ne (by omega), ← h127w, pw_g_ne (fun q => hj q.2.symm), ← h121w, pw_g_ne (by omega), ← h115w, pw_g_ne (by omega), pw_Eg (c := 159) I53 h112E rfl rfl j]
                              have m2 : ∀ j : Nat, pw_g h121 161 j = pw_g gh53 161 j := fun j => by rw [← h121w, pw_g_ne (by omega), ← h115w, pw_g_ne (by omega), pw_Eg (c := 161) I53 h112E rfl rfl j]
                              have a3 : pw_g h131 160 ix.toNat = pw_g h127 161 (Int.toNat 3) := by
                                rw [← h131w]
                                exact pw_g_eqA h127I rfl (by omega) (by omega) (by omega)
                              have b3 : ∀ j : Nat, j ≠ ix.toNat → pw_g h131 160 j = pw_g gh53 160 j := fun j hj => by rw [← h131w, pw_g_ne (fun q => hj q.2.symm), ← h127w, pw_g_ne (by omega), ← h121w, pw_g_ne (by omega), ← h115w, pw_g_ne (by omega), pw_Eg (c := 160) I53 h112E rfl rfl j]
                              have m3 : ∀ j : Nat, pw_g h127 161 j = pw_g gh53 161 j := fun j => by rw [← h127w, pw_g_ne (by omega), ← h121w, pw_g_ne (by omega), ← h115w, pw_g_ne (by omega), pw_Eg (c := 161) I53 h112E rfl rfl j]
                              have hx1 := m1 1
                              have hx2 := m2 2
                              have hWS : pt_WS h131 ix th C N := hMW.wri (by omega) (by omega) hkc (a0.trans (m0 0)) ⟨fun q => by have a1 := a1; have m1 : pw_g _ 161 (Int.toNat 1) = _ := m1 1; omega, fun q => by have m1 : pw_g _ 161 (Int.toNat 1) = _ := m1 1; omega⟩ ⟨fun q => by have m2 : pw_g _ 161 (Int.toNat 2) = _ := m2 2; omega, fun q => by have m2 : pw_g _ 161 (Int.toNat 2) = _ := m2 2; omega⟩ (a3.trans (m3 3))
                              have hLV : pt_LV h h131 ix := ⟨fun j hj => (show pw_g h131 145 j = pw_g gh53 145 j by rw [← h131w, pw_g_ne (by omega), ← h127w, pw_g_ne (by omega), ← h121w, pw_g_ne (by omega), ← h115w, pw_g_ne (by omega), pw_Eg (c := 145) I53 h112E rfl rfl j]).trans (hx53_3.1 j hj), fun j q1 q2 => ⟨(hkc.2 j (by omega)).1.trans (hx53_3.2.1 j q1).1, (hkc.2 j (by omega)).2.trans (hx53_3.2.1 j q1).2⟩, fun j hj => ⟨(b0 j hj).trans (hx53_3.2.2 j), (b1 j hj).trans (hx53_8 j).1, (b2 j hj).trans (hx53_8 j).2.1, (b3 j hj).trans (hx53_8 j).2.2⟩⟩
                              exact ⟨h131I, h131F, (hp0.of hx53_3.1 hx53_3.2.1 hx53_3.2.2).wri (L := pw_g gh53 161 0) (by omega) (by omega) (hx53_2 (by omega)).1 (by omega) ((hl136 _).trans (hw0.trans (hl132 0))) (fun j hj => (hl136 j).trans ((hw1 j hj).trans (hl137 j))) hkc hl133, ⟨_, rfl, by omega, by omega, ⟨(pt_e2 cE rfl).trans hx53_7, fun q => absurd ⟨by omega, by omega⟩ q, fun _ _ => ⟨L, hsg, by rw [hRe], fun q => absurd rfl q, fun _ => ⟨by rw [hRe]; exact hWS, hLV⟩⟩⟩⟩⟩
                            · intro hc138
                              change ¬ ((0 : Int) ≤ pw_g h121 161 (Int.toNat 2)) at hc138
                              refine pw_bip E (pc' := 151) rfl rfl (by decide) ?_
                              refine pw_goto E (pc' := 160) rfl (by decide) ?_
                              refine pw_ast0 h121I E (c := 159) (pc' := 161) rfl rfl rfl (by decide) rfl (by decide) (by omega) (by omega) rfl (by omega) (by omega) (by omega) (by omega) rfl ?_
                              intro h139I h139E
                              generalize h139w : pw_w h121 159 (ix.toNat) (pw_i 11) = h139 at h139I h139E ⊢
                              have h139F := h121F.tr (h139E.wk (W' := [125, 127, 128, 129, 146, 147, 157, 158, 159, 160, 161, 1002]) (by first | rfl | simp))
                              have hl140 : ∀ j : Nat, pw_g h139 161 j = pw_g gh53 161 j := fun j => ((((by rw [← h139w]; exact pw_g_ne (by omega) : pw_g h139 161 j = pw_g h121 161 j)).trans (by rw [← h121w]; exact pw_g_ne (by omega) : pw_g h121 161 j = pw_g h115 161 j)).trans (by rw [← h115w]; exact pw_g_ne (by omega) : pw_g h115 161 j = pw_g h112 161 j)).trans (pw_Eg (c := 161) I53 h112E rfl rfl j : pw_g h112 161 j = pw_g gh53 161 j)
                              have hr141 : pw_g h139 161 (Int.toNat 3) ≤ 10 := by rw [hl140]; exact (hx53_2 (by omega)).2.2.2
                              refine pw_ld E (pc' := 162) (st' := [.ref 141]) rfl (fun _ => rfl) ?_
                              refine pw_getR (b := 176) h139I E (c := 125) (k := 49) (pc' := 165) rfl rfl rfl rfl rfl rfl rfl ?_
                              refine pw_ld E (pc' := 166) (st' := [pw_i ix, .ref 176]) rfl (fun _ => rfl) ?_
                              refine pw_ld E (pc' := 167) (st' := [.ref 141, pw_i ix, .ref 176]) rfl (fun _ => rfl) ?_
                              refine pw_getR (b := 177) h139I E (c := 125) (k := 50) (pc' := 170) rfl rfl rfl rfl rfl rfl rfl ?_
                              refine pw_ld E (pc' := 171) (st' := [pw_i 3, .ref 177, pw_i ix, .ref 176]) rfl (fun _ => rfl) ?_
                              refine pw_ald2 h139I E (c := 161) (pc' := 172) rfl rfl rfl (by decide) rfl (by decide) (by omega) (by omega) rfl (fun hf142a hf142b => ?_)
                              refine pw_ast0 h139I E (c := 160) (pc' := 173) rfl rfl rfl (by decide) rfl (by decide) (by omega) (by omega) rfl (by omega) (by omega) (by omega) (by omega) rfl ?_
                              intro h143I h143E
                              generalize h143w : pw_w h139 160 (ix.toNat) (pw_i (pw_g h139 161 (Int.toNat 3))) = h143 at h143I h143E ⊢
                              have h143F := h139F.tr (h143E.wk (W' := [125, 127, 128, 129, 146, 147, 157, 158, 159, 160, 161, 1002]) (by first | rfl | simp))
                              refine pw_ld E (pc' := 174) (st' := [pw_i 0]) rfl (fun _ => rfl) ?_
                              refine pw_iret E rfl ?_
                              have hl144 : ∀ j : Nat, pw_g h112 161 j = pw_g gh53 161 j := fun j => (pw_Eg (c := 161) I53 h112E rfl rfl j : pw_g h112 161 j = pw_g gh53 161 j)
                              have hl145 : ∀ j : Nat, pw_g h143 145 j = pw_g gh53 145 j := fun j => (((((by rw [← h143w]; exact pw_g_ne (by omega) : pw_g h143 145 j = pw_g h139 145 j)).trans (by rw [← h139w]; exact pw_g_ne (by omega) : pw_g h139 145 j = pw_g h121 145 j)).trans (by rw [← h121w]; exact pw_g_ne (by omega) : pw_g h121 145 j = pw_g h115 145 j)).trans (by rw [← h115w]; exact pw_g_ne (by omega) : pw_g h115 145 j = pw_g h112 145 j)).trans (pw_Eg (c := 145) I53 h112E rfl rfl j : pw_g h112 145 j = pw_g gh53 145 j)
                              have hl146 : ∀ j : Nat, pw_g h143 146 j = pw_g h112 146 j := fun j => ((((by rw [← h143w]; exact pw_g_ne (by omega) : pw_g h143 146 j = pw_g h139 146 j)).trans (by rw [← h139w]; exact pw_g_ne (by omega) : pw_g h139 146 j = pw_g h121 146 j)).trans (by rw [← h121w]; exact pw_g_ne (by omega) : pw_g h121 146 j = pw_g h115 146 j)).trans (by rw [← h115w]; exact pw_g_ne (by omega) : pw_g h115 146 j = pw_g h112 146 j)
                              have hl147 : ∀ j : Nat, pw_g h143 147 j = pw_g h112 147 j := fun j => ((((by rw [← h143w]; exact pw_g_ne (by omega) : pw_g h143 147 j = pw_g h139 147 j)).trans (by rw [← h139w]; exact pw_g_ne (by omega) : pw_g h139 147 j = pw_g h121 147 j)).trans (by rw [← h121w]; exact pw_g_ne (by omega) : pw_g h121 147 j = pw_g h115 147 j)).trans (by rw [← h115w]; exact pw_g_ne (by omega) : pw_g h115 147 j = pw_g h112 147 j)
                              have hl148 : ∀ j : Nat, pw_g h143 157 j = pw_g h115 157 j := fun j => (((by rw [← h143w]; exact pw_g_ne (by omega) : pw_g h143 157 j = pw_g h139 157 j)).trans (by rw [← h139w]; exact pw_g_ne (by omega) : pw_g h139 157 j = pw_g h121 157 j)).trans (by rw [← h121w]; exact pw_g_ne (by omega) : pw_g h121 157 j = pw_g h115 157 j)
                              have hl149 : ∀ j : Nat, pw_g h112 157 j = pw_g gh53 157 j := fun j => (pw_Eg (c := 157) I53 h112E rfl rfl j : pw_g h112 157 j = pw_g gh53 157 j)
                              have hw0 : pw_g h115 157 (ix.toNat) = pw_g h112 161 (Int.toNat 0) := by rw [← h115w]; exact pw_g_eqA h112I rfl (by omega) (by omega) (by omega)
                              have hw1 : ∀ j : Nat, j ≠ ix.toNat → pw_g h115 157 j = pw_g h112 157 j := fun j hj => by rw [← h115w]; exact pw_g_ne (fun q => hj q.2.symm)
                              have hkc : pw_KC gh53 h143 (5 + ix) (pw_g gh53 125 32) := ⟨fun j hj => ⟨(hl146 _).trans (hqkeep.1 j hj).1, (hl147 _).trans (hqkeep.1 j hj).2⟩, fun j hj => ⟨(hl146 _).trans (hqkeep.2 j hj).1, (hl147 _).trans (hqkeep.2 j hj).2⟩⟩
                              have cE : pw_E [146, 147, 157, 158, 159, 160] gh53 h143 := (((((h112E.wk (W' := [146, 147, 157, 158, 159, 160]) (by first | rfl | simp)).tr (h115E.wk (W' := [146, 147, 157, 158, 159, 160]) (by first | rfl | simp))).tr (h121E.wk (W' := [146, 147, 157, 158, 159, 160]) (by first | rfl | simp))).tr (h139E.wk (W' := [146, 147, 157, 158, 159, 160]) (by first | rfl | simp))).tr (h143E.wk (W' := [146, 147, 157, 158, 159, 160]) (by first | rfl | simp)))
                              have hk0 : K (pw_g gh53 125 7).toNat = 0 := by rw [← hx53_5.1]; first | assumption | omega
                              obtain ⟨-, th, C, N, hTI, hMW⟩ := hx53_6.resolve_right (fun q => by have := q.1; omega)
                              have hRe := hTI.en (by omega) hk0
                              rw [hRX] at hRe
                              have a0 : pw_g h143 157 ix.toNat = pw_g h112 161 (Int.toNat 0) := by
                                rw [← h143w, pw_g_ne (by omega), ← h139w, pw_g_ne (by omega), ← h121w, pw_g_ne (by omega), ← h115w]
                                exact pw_g_eqA h112I rfl (by omega) (by omega) (by omega)
                              have b0 : ∀ j : Nat, j ≠ ix.toNat → pw_g h143 157 j = pw_g gh53 157 j := fun j hj => by rw [← h143w, pw_g_ne (by omega), ← h139w, pw_g_ne (by omega), ← h121w, pw_g_ne (by omega), ← h115w, pw_g_ne (fun q => hj q.2.symm), pw_Eg (c := 157) I53 h112E rfl rfl j]
                              have m0 : ∀ j : Nat, pw_g h112 161 j = pw_g gh53 161 j := fun j => by rw [pw_Eg (c := 161) I53 h112E rfl rfl j]
                              have a1 : pw_g h143 158 ix.toNat = pw_g h115 161 (Int.toNat 1) := by
                                rw [← h143w, pw_g_ne (by omega), ← h139w, pw_g_ne (by omega), ← h121w]
                                exact pw_g_eqA h115I rfl (by omega) (by omega) (by omega)
                              have b1 : ∀ j : Nat, j ≠ ix.toNat → pw_g h143 158 j = pw_g gh53 158 j := fun j hj => by rw [← h143w, pw_g_ne (by omega), ← h139w, pw_g_ne (by omega), ← h121w, pw_g_ne (fun q => hj q.2.symm), ← h115w, pw_g_ne (by omega), pw_Eg (c := 158) I53 h112E rfl rfl j]
                              have m1 : ∀ j : Nat, pw_g h115 161 j = pw_g gh53 161 j := fun j => by rw [← h115w, pw_g_ne (by omega), pw_Eg (c := 161) I53 h112E rfl rfl j]
                              have a2 : pw_g h143 159 ix.toNat = 11 := by
                                rw [← h143w, pw_g_ne (by omega), ← h139w]
                                exact pw_g_eqA h121I rfl (by omega) (by omega) (by omega)
                              have b2 : ∀ j : Nat, j ≠ ix.toNat → pw_g h143 159 j = pw_g gh53 159 j := fun j hj => by rw [← h143w, pw_g_ne (by omega), ← h139w, pw_g_ne (fun q => hj q.2.symm), ← h121w, pw_g_ne (by omega), ← h115w, pw_g_ne (by omega), pw_Eg (c := 159) I53 h112E rfl rfl j]
                              have m2 : ∀ j : Nat, pw_g h121 161 j = pw_g gh53 161 j := fun j => by rw [← h121w, pw_g_ne (by omega), ← h115w, pw_g_ne (by omega), pw_Eg (c := 161) I53 h112E rfl rfl j]
                              have a3 : pw_g h143 160 ix.toNat = pw_g h139 161 (Int.toNat 3) := by
                                rw [← h143w]
                                exact pw_g_eqA h139I rfl (by omega) (by omega) (by omega)
                              have b3 : ∀ j : Nat, j ≠ ix.toNat → pw_g h143 160 j = pw_g gh53 160 j := fun j hj => by rw [← h143w, pw_g_ne (fun q => hj q.2.symm), ← h139w, pw_g_ne (by omega), ← h121w, pw_g_ne (by omega), ← h115w, pw_g_ne (by omega), pw_Eg (c := 160) I53 h112E rfl rfl j]
                              have m3 : ∀ j : Nat, pw_g h139 161 j = pw_g gh53 161 j := fun j => by rw [← h139w, pw_g_ne (by omega), ← h121w, pw_g_ne (by omega), ← h115w, pw_g_ne (by omega), pw_Eg (c := 161) I53 h112E rfl rfl j]
                              have hx1 := m1 1
                              have hx2 := m2 2
                              have hWS : pt_WS h143 ix th C N := hMW.wri (by omega) (by omega) hkc (a0.trans (m0 0)) ⟨fun q => by have a1 := a1; have m1 : pw_g _ 161 (Int.toNat 1) = _ := m1 1; omega, fun q => by have m1 : pw_g _ 161 (Int.toNat 1) = _ := m1 1; omega⟩ ⟨fun q => by have m2 : pw_g _ 161 (Int.toNat 2) = _ := m2 2; omega, fun q => by have m2 : pw_g _ 161 (Int.toNat 2) = _ := m2 2; omega⟩ (a3.trans (m3 3))
                              have hLV : pt_LV h h143 ix := ⟨fun j hj => (show pw_g h143 145 j = pw_g gh53 145 j by rw [← h143w, pw_g_ne (by omega), ← h139w, pw_g_ne (by omega), ← h121w, pw_g_ne (by omega), ← h115w, pw_g_ne (by omega), pw_Eg (c := 145) I53 h112E rfl rfl j]).trans (hx53_3.1 j hj), fun j q1 q2 => ⟨(hkc.2 j (by omega)).1.trans (hx53_3.2.1 j q1).1, (hkc.2 j (by omega)).2.trans (hx53_3.2.1 j q1).2⟩, fun j hj => ⟨(b0 j hj).trans (hx53_3.2.2 j), (b1 j hj).trans (hx53_8 j).1, (b2 j hj).trans (hx53_8 j).2.1, (b3 j hj).trans (hx53_8 j).2.2⟩⟩
                              exact ⟨h143I, h143F, (hp0.of hx53_3.1 hx53_3.2.1 hx53_3.2.2).wri (L := pw_g gh53 161 0) (by omega) (by omega) (hx53_2 (by omega)).1 (by omega) ((hl148 _).trans (hw0.trans (hl144 0))) (fun j hj => (hl148 j).trans ((hw1 j hj).trans (hl149 j))) hkc hl145, ⟨_, rfl, by omega, by omega, ⟨(pt_e2 cE rfl).trans hx53_7, fun q => absurd ⟨by omega, by omega⟩ q, fun _ _ => ⟨L, hsg, by rw [hRe], fun q => absurd rfl q, fun _ => ⟨by rw [hRe]; exact hWS, hLV⟩⟩⟩⟩⟩
                          · intro hc150
                            change ¬ ((0 : Int) ≤ pw_g h115 161 (Int.toNat 1)) at hc150
                            refine pw_ld E (pc' := 125) (st' := [pw_i 0, pw_i ix, .ref 174]) rfl (fun _ => rfl) ?_
                            refine pw_goto E (pc' := 134) rfl (by decide) ?_
                            refine pw_ast0 h115I E (c := 158) (pc' := 135) rfl rfl rfl (by decide) rfl (by decide) (by omega) (by omega) rfl (by omega) (by omega) (by omega) (by omega) rfl ?_
                            intro h151I h151E
                            generalize h151w : pw_w h115 158 (ix.toNat) (pw_i 0) = h151 at h151I h151E ⊢
                            have h151F := h115F.tr (h151E.wk (W' := [125, 127, 128, 129, 146, 147, 157, 158, 159, 160, 161, 1002]) (by first | rfl | simp))
                            have hl152 : ∀ j : Nat, pw_g h151 161 j = pw_g gh53 161 j := fun j => (((by rw [← h151w]; exact pw_g_ne (by omega) : pw_g h151 161 j = pw_g h115 161 j)).trans (by rw [← h115w]; exact pw_g_ne (by omega) : pw_g h115 161 j = pw_g h112 161 j)).trans (pw_Eg (c := 161) I53 h112E rfl rfl j : pw_g h112 161 j = pw_g gh53 161 j)
                            have hr153 : pw_g h151 161 (Int.toNat 2) ≤ 11 := by rw [hl152]; exact (hx53_2 (by omega)).2.2.1
                            refine pw_ld E (pc' := 136) (st' := [.ref 141]) rfl (fun _ => rfl) ?_
                            refine pw_getR (b := 175) h151I E (c := 125) (k := 48) (pc' := 139) rfl rfl rfl rfl rfl rfl rfl ?_
                            refine pw_ld E (pc' := 140) (st' := [pw_i ix, .ref 175]) rfl (fun _ => rfl) ?_
                            refine pw_ld E (pc' := 141) (st' := [.ref 141, pw_i ix, .ref 175]) rfl (fun _ => rfl) ?_
                            refine pw_getR (b := 177) h151I E (c := 125) (k := 50) (pc' := 144) rfl rfl rfl rfl rfl rfl rfl ?_
                            refine pw_ld E (pc' := 145) (st' := [pw_i 2, .ref 177, pw_i ix, .ref 175]) rfl (fun _ => rfl) ?_
                            refine pw_ald2 h151I E (c := 161) (pc' := 146) rfl rfl rfl (by decide) rfl (by decide) (by omega) (by omega) rfl (fun hf154a hf154b => ?_)
                            refine pw_if E (pc' := 154) rfl (by decide) (by omega) (by omega) ?_ ?_
                            · intro hc155
                              change (0 : Int) ≤ pw_g h151 161 (Int.toNat 2) at hc155
                              refine pw_ld E (pc' := 155) (st' := [.ref 141, pw_i ix, .ref 175]) rfl (fun _ => rfl) ?_
                              refine pw_getR (b := 177) h151I E (c := 125) (k := 50) (pc' := 158) rfl rfl rfl rfl rfl rfl rfl ?_
                              refine pw_ld E (pc' := 159) (st' := [pw_i 2, .ref 177, pw_i ix, .ref 175]) rfl (fun _ => rfl) ?_
                              refine pw_ald2 h151I E (c := 161) (pc' := 160) rfl rfl rfl (by decide) rfl (by decide) (by omega) (by omega) rfl (fun hf156a hf156b => ?_)
                              refine pw_ast0 h151I E (c := 159) (pc' := 161) rfl rfl rfl (by decide) rfl (by decide) (by omega) (by omega) rfl (by omega) (by omega) (by omega) (by omega) rfl ?_
                              intro h157I h157E
                              generalize h157w : pw_w h151 159 (ix.toNat) (pw_i (pw_g h151 161 (Int.toNat 2))) = h157 at h157I h157E ⊢
                              have h157F := h151F.tr (h157E.wk (W' := [125, 127, 128, 129, 146, 147, 157, 158, 159, 160, 161, 1002]) (by first | rfl | simp))
                              have hl158 : ∀ j : Nat, pw_g h157 161 j = pw_g gh53 161 j := fun j => ((((by rw [← h157w]; exact pw_g_ne (by omega) : pw_g h157 161 j = pw_g h151 161 j)).trans (by rw [← h151w]; exact pw_g_ne (by omega) : pw_g h151 161 j = pw_g h115 161 j)).trans (by rw [← h115w]; exact pw_g_ne (by omega) : pw_g h115 161 j = pw_g h112 161 j)).trans (pw_Eg (c := 161) I53 h112E rfl rfl j : pw_g h112 161 j = pw_g gh53 161 j)
                              have hr159 : pw_g h157 161 (Int.toNat 3) ≤ 10 := by rw [hl158]; exact (hx53_2 (by omega)).2.2.2
                              refine pw_ld E (pc' := 162) (st' := [.ref 141]) rfl (fun _ => rfl) ?_
                              refine pw_getR (b := 176) h157I E (c := 125) (k := 49) (pc' := 165) rfl rfl rfl rfl rfl rfl rfl ?_
                              refine pw_ld E (pc' := 166) (st' := [pw_i ix, .ref 176]) rfl (fun _ => rfl) ?_
                              refine pw_ld E (pc' := 167) (st' := [.ref 141, pw_i ix, .ref 176]) rfl (fun _ => rfl) ?_
                              refine pw_getR (b := 177) h157I E (c := 125) (k := 50) (pc' := 170) rfl rfl rfl rfl rfl rfl rfl ?_
                              refine pw_ld E (pc' := 171) (st' := [pw_i 3, .ref 177, pw_i ix, .ref 176]) rfl (fun _ => rfl) ?_
                              refine pw_ald2 h157I E (c := 161) (pc' := 172) rfl rfl rfl (by decide) rfl (by decide) (by omega) (by omega) rfl (fun hf160a hf160b => ?_)
                              refine pw_ast0 h157I E (c := 160) (pc' := 173) rfl rfl rfl (by decide) rfl (by decide) (by omega) (by omega) rfl (by omega) (by omega) (by omega) (by omega) rfl ?_
                              intro h161I h161E
                              generalize h161w : pw_w h157 160 (ix.toNat) (pw_i (pw_g h157 161 (Int.toNat 3))) = h161 at h161I h161E ⊢
                              have h161F := h157F.tr (h161E.wk (W' := [125, 127, 128, 129, 146, 147, 157, 158, 159, 160, 161, 1002]) (by first | rfl | simp))
                              refine pw_ld E (pc' := 174) (st' := [pw_i 0]) rfl (fun _ => rfl) ?_
                              refine pw_iret E rfl ?_
                              have hl162 : ∀ j : Nat, pw_g h112 161 j = pw_g gh53 161 j := fun j => (pw_Eg (c := 161) I53 h112E rfl rfl j : pw_g h112 161 j = pw_g gh53 161 j)
                              have hl163 : ∀ j : Nat, pw_g h161 145 j = pw_g gh53 145 j := fun j => (((((by rw [← h161w]; exact pw_g_ne (by omega) : pw_g h161 145 j = pw_g h157 145 j)).trans (by rw [← h157w]; exact pw_g_ne (by omega) : pw_g h157 145 j = pw_g h151 145 j)).trans (by rw [← h151w]; exact pw_g_ne (by omega) : pw_g h151 145 j = pw_g h115 145 j)).trans (by rw [← h115w]; exact pw_g_ne (by omega) : pw_g h115 145 j = pw_g h112 145 j)).trans (pw_Eg (c := 145) I53 h112E rfl rfl j : pw_g h112 145 j = pw_g gh53 145 j)
                              have hl164 : ∀ j : Nat, pw_g h161 146 j = pw_g h112 146 j := fun j => ((((by rw [← h161w]; exact pw_g_ne (by omega) : pw_g h161 146 j = pw_g h157 146 j)).trans (by rw [← h157w]; exact pw_g_ne (by omega) : pw_g h157 146 j = pw_g h151 146 j)).trans (by rw [← h151w]; exact pw_g_ne (by omega) : pw_g h151 146 j = pw_g h115 146 j)).trans (by rw [← h115w]; exact pw_g_ne (by omega) : pw_g h115 146 j = pw_g h112 146 j)
                              have hl165 : ∀ j : Nat, pw_g h161 147 j = pw_g h112 147 j := fun j => ((((by rw [← h161w]; exact pw_g_ne (by omega) : pw_g h161 147 j = pw_g h157 147 j)).trans (by rw [← h157w]; exact pw_g_ne (by omega) : pw_g h157 147 j = pw_g h151 147 j)).trans (by rw [← h151w]; exact pw_g_ne (by omega) : pw_g h151 147 j = pw_g h115 147 j)).trans (by rw [← h115w]; exact pw_g_ne (by omega) : pw_g h115 147 j = pw_g h112 147 j)
                              have hl166 : ∀ j : Nat, pw_g h161 157 j = pw_g h115 157 j := fun j => (((by rw [← h161w]; exact pw_g_ne (by omega) : pw_g h161 157 j = pw_g h157 157 j)).trans (by rw [← h157w]; exact pw_g_ne (by omega) : pw_g h157 157 j = pw_g h151 157 j)).trans (by rw [← h151w]; exact pw_g_ne (by omega) : pw_g h151 157 j = pw_g h115 157 j)
                              have hl167 : ∀ j : Nat, pw_g h112 157 j = pw_g gh53 157 j := fun j => (pw_Eg (c := 157) I53 h112E rfl rfl j : pw_g h112 157 j = pw_g gh53 157 j)
                              have hw0 : pw_g h115 157 (ix.toNat) = pw_g h112 161 (Int.toNat 0) := by rw [← h115w]; exact pw_g_eqA h112I rfl (by omega) (by omega) (by omega)
                              have hw1 : ∀ j : Nat, j ≠ ix.toNat → pw_g h115 157 j = pw_g h112 157 j := fun j hj => by rw [← h115w]; exact pw_g_ne (fun q => hj q.2.symm)
                              have hkc : pw_KC gh53 h161 (5 + ix) (pw_g gh53 125 32) := ⟨fun j hj => ⟨(hl164 _).trans (hqkeep.1 j hj).1, (hl165 _).trans (hqkeep.1 j hj).2⟩, fun j hj => ⟨(hl164 _).trans (hqkeep.2 j hj).1, (hl165 _).trans (hqkeep.2 j hj).2⟩⟩
                              have cE : pw_E [146, 147, 157, 158, 159, 160] gh53 h161 := (((((h112E.wk (W' := [146, 147, 157, 158, 159, 160]) (by first | rfl | simp)).tr (h115E.wk (W' := [146, 147, 157, 158, 159, 160]) (by first | rfl | simp))).tr (h151E.wk (W' := [146, 147, 157, 158, 159, 160]) (by first | rfl | simp))).tr (h157E.wk (W' := [146, 147, 157, 158, 159, 160]) (by first | rfl | simp))).tr (h161E.wk (W' := [146, 147, 157, 158, 159, 160]) (by first | rfl | simp)))
                              have hk0 : K (pw_g gh53 125 7).toNat = 0 := by rw [← hx53_5.1]; first | assumption | omega
                              obtain ⟨-, th, C, N, hTI, hMW⟩ := hx53_6.resolve_right (fun q => by have := q.1; omega)
                              have hRe := hTI.en (by omega) hk0
                              rw [hRX] at hRe
                              have a0 : pw_g h161 157 ix.toNat = pw_g h112 161 (Int.toNat 0) := by
                                rw [← h161w, pw_g_ne (by omega), ← h157w, pw_g_ne (by omega), ← h151w, pw_g_ne (by omega), ← h115w]
                                exact pw_g_eqA h112I rfl (by omega) (by omega) (by omega)
                              have b0 : ∀ j : Nat, j ≠ ix.toNat → pw_g h161 157 j = pw_g gh53 157 j := fun j hj => by rw [← h161w, pw_g_ne (by omega), ← h157w, pw_g_ne (by omega), ← h151w, pw_g_ne (by omega), ← h115w, pw_g_ne (fun q => hj q.2.symm), pw_Eg (c := 157) I53 h112E rfl rfl j]
                              have m0 : ∀ j : Nat, pw_g h112 161 j = pw_g gh53 161 j := fun j => by rw [pw_Eg (c := 161) I53 h112E rfl rfl j]
                              have a1 : pw_g h161 158 ix.toNat = 0 := by
                                rw [← h161w, pw_g_ne (by omega), ← h157w, pw_g_ne (by omega), ← h151w]
                                exact pw_g_eqA h115I rfl (by omega) (by omega) (by omega)
                              have b1 : ∀ j : Nat, j ≠ ix.toNat → pw_g h161 158 j = pw_g gh53 158 j := fun j hj => by rw [← h161w, pw_g_ne (by omega), ← h157w, pw_g_ne (by omega), ← h151w, pw_g_ne (fun q => hj q.2.symm), ← h115w, pw_g_ne (by omega), pw_Eg (c := 158) I53 h112E rfl rfl j]
                              have m1 : ∀ j : Nat, pw_g h115 161 j = pw_g gh53 161 j := fun j => by rw [← h115w, pw_g_ne (by omega), pw_Eg (c := 161) I53 h112E rfl rfl j]
                              have a2 : pw_g h161 159 ix.toNat = pw_g h151 161 (Int.toNat 2) := by
                                rw [← h161w, pw_g_ne (by omega), ← h157w]
                                exact pw_g_eqA h151I rfl (by omega) (by omega) (by omega)
                              have b2 : ∀ j : Nat, j ≠ ix.toNat → pw_g h161 159 j = pw_g gh53 159 j := fun j hj => by rw [← h161w, pw_g_ne (by omega), ← h157w, pw_g_ne (fun q => hj q.2.symm), ← h151w, pw_g_ne (by omega), ← h115w, pw_g_ne (by omega), pw_Eg (c := 159) I53 h112E rfl rfl j]
                              have m2 : ∀ j : Nat, pw_g h151 161 j = pw_g gh53 161 j := fun j => by rw [← h151w, pw_g_ne (by omega), ← h115w, pw_g_ne (by omega), pw_Eg (c := 161) I53 h112E rfl rfl j]
                              have a3 : pw_g h161 160 ix.toNat = pw_g h157 161 (Int.toNat 3) := by
                                rw [← h161w]
                                exact pw_g_eqA h157I rfl (by omega) (by omega) (by omega)
                              have b3 : ∀ j : Nat, j ≠ ix.toNat → pw_g h161 160 j = pw_g gh53 160 j := fun j hj => by rw [← h161w, pw_g_ne (fun q => hj q.2.symm), ← h157w, pw_g_ne (by omega), ← h151w, pw_g_ne (by omega), ← h115w, pw_g_ne (by omega), pw_Eg (c := 160) I53 h112E rfl rfl j]
                              have m3 : ∀ j : Nat, pw_g h157 161 j = pw_g gh53 161 j := fun j => by rw [← h157w, pw_g_ne (by omega), ← h151w, pw_g_ne (by omega), ← h115w, pw_g_ne (by omega), pw_Eg (c := 161) I53 h112E rfl rfl j]
                              have hx1 := m1 1
                              have hx2 := m2 2
                              have hWS : pt_WS h161 ix th C N := hMW.wri (by omega) (by omega) hkc (a0.trans (m0 0)) ⟨fun q => by have a1 := a1; have m1 : pw_g _ 161 (Int.toNat 1) = _ := m1 1; omega, fun q => by have m1 : pw_g _ 161 (Int.toNat 1) = _ := m1 1; omega⟩ ⟨fun q => by have m2 : pw_g _ 161 (Int.toNat 2) = _ := m2 2; omega, fun q => by have m2 : pw_g _ 161 (Int.toNat 2) = _ := m2 2; omega⟩ (a3.trans (m3 3))
                              have hLV : pt_LV h h161 ix := ⟨fun j hj => (show pw_g h161 145 j = pw_g gh53 145 j by rw [← h161w, pw_g_ne (by omega), ← h157w, pw_g_ne (by omega), ← h151w, pw_g_ne (by omega), ← h115w, pw_g_ne (by omega), pw_Eg (c := 145) I53 h112E rfl rfl j]).trans (hx53_3.1 j hj), fun j q1 q2 => ⟨(hkc.2 j (by omega)).1.trans (hx53_3.2.1 j q1).1, (hkc.2 j (by omega)).2.trans (hx53_3.2.1 j q1).2⟩, fun j hj => ⟨(b0 j hj).trans (hx53_3.2.2 j), (b1 j hj).trans (hx53_8 j).1, (b2 j hj).trans (hx53_8 j).2.1, (b3 j hj).trans (hx53_8 j).2.2⟩⟩
                              exact ⟨h161I, h161F, (hp0.of hx53_3.1 hx53_3.2.1 hx53_3.2.2).wri (L := pw_g gh53 161 0) (by omega) (by omega) (hx53_2 (by omega)).1 (by omega) ((hl166 _).trans (hw0.trans (hl162 0))) (fun j hj => (hl166 j).trans ((hw1 j hj).trans (hl167 j))) hkc hl163, ⟨_, rfl, by omega, by omega, ⟨(pt_e2 cE rfl).trans hx53_7, fun q => absurd ⟨by omega, by omega⟩ q, fun _ _ => ⟨L, hsg, by rw [hRe], fun q => absurd rfl q, fun _ => ⟨by rw [hRe]; exact hWS, hLV⟩⟩⟩⟩⟩
                            · intro hc168
                              change ¬ ((0 : Int) ≤ pw_g h151 161 (Int.toNat 2)) at hc168
                              refine pw_bip E (pc' := 151) rfl rfl (by decide) ?_
                              refine pw_goto E (pc' := 160) rfl (by decide) ?_
                              refine pw_ast0 h151I E (c := 159) (pc' := 161) rfl rfl rfl (by decide) rfl (by decide) (by omega) (by omega) rfl (by omega) (by omega) (by omega) (by omega) rfl ?_
                              intro h169I h169E
                              generalize h169w : pw_w h151 159 (ix.toNat) (pw_i 11) = h169 at h169I h169E ⊢
                              have h169F := h151F.tr (h169E.wk (W' := [125, 127, 128, 129, 146, 147, 157, 158, 159, 160, 161, 1002]) (by first | rfl | simp))
                              have hl170 : ∀ j : Nat, pw_g h169 161 j = pw_g gh53 161 j := fun j => ((((by rw [← h169w]; exact pw_g_ne (by omega) : pw_g h169 161 j = pw_g h151 161 j)).trans (by rw [← h151w]; exact pw_g_ne (by omega) : pw_g h151 161 j = pw_g h115 161 j)).trans (by rw [← h115w]; exact pw_g_ne (by omega) : pw_g h115 161 j = pw_g h112 161 j)).trans (pw_Eg (c := 161) I53 h112E rfl rfl j : pw_g h112 161 j = pw_g gh53 161 j)
                              have hr171 : pw_g h169 161 (Int.toNat 3) ≤ 10 := by rw [hl170]; exact (hx53_2 (by omega)).2.2.2
                              refine pw_ld E (pc' := 162) (st' := [.ref 141]) rfl (fun _ => rfl) ?_
                              refine pw_getR (b := 176) h169I E (c := 125) (k := 49) (pc' := 165) rfl rfl rfl rfl rfl rfl rfl ?_
                              refine pw_ld E (pc' := 166) (st' := [pw_i ix, .ref 176]) rfl (fun _ => rfl) ?_
                              refine pw_ld E (pc' := 167) (st' := [.ref 141, pw_i ix, .ref 176]) rfl (fun _ => rfl) ?_
                              refine pw_getR (b := 177) h169I E (c := 125) (k := 50) (pc' := 170) rfl rfl rfl rfl rfl rfl rfl ?_
                              refine pw_ld E (pc' := 171) (st' := [pw_i 3, .ref 177, pw_i ix, .ref 176]) rfl (fun _ => rfl) ?_
                              refine pw_ald2 h169I E (c := 161) (pc' := 172) rfl rfl rfl (by decide) rfl (by decide) (by omega) (by omega) rfl (fun hf172a hf172b => ?_)
                              refine pw_ast0 h169I E (c := 160) (pc' := 173) rfl rfl rfl (by decide) rfl (by decide) (by omega) (by omega) rfl (by omega) (by omega) (by omega) (by omega) rfl ?_
                              intro h173I h173E
                              generalize h173w : pw_w h169 160 (ix.toNat) (pw_i (pw_g h169 161 (Int.toNat 3))) = h173 at h173I h173E ⊢
                              have h173F := h169F.tr (h173E.wk (W' := [125, 127, 128, 129, 146, 147, 157, 158, 159, 160, 161, 1002]) (by first | rfl | simp))
                              refine pw_ld E (pc' := 174) (st' := [pw_i 0]) rfl (fun _ => rfl) ?_
                              refine pw_iret E rfl ?_
                              have hl174 : ∀ j : Nat, pw_g h112 161 j = pw_g gh53 161 j := fun j => (pw_Eg (c := 161) I53 h112E rfl rfl j : pw_g h112 161 j = pw_g gh53 161 j)
                              have hl175 : ∀ j : Nat, pw_g h173 145 j = pw_g gh53 145 j := fun j => (((((by rw [← h173w]; exact pw_g_ne (by omega) : pw_g h173 145 j = pw_g h169 145 j)).trans (by rw [← h169w]; exact pw_g_ne (by omega) : pw_g h169 145 j = pw_g h151 145 j)).trans (by rw [← h151w]; exact pw_g_ne (by omega) : pw_g h151 145 j = pw_g h115 145 j)).trans (by rw [← h115w]; exact pw_g_ne (by omega) : pw_g h115 145 j = pw_g h112 145 j)).trans (pw_Eg (c := 145) I53 h112E rfl rfl j : pw_g h112 145 j = pw_g gh53 145 j)
                              have hl176 : ∀ j : Nat, pw_g h173 146 j = pw_g h112 146 j := fun j => ((((by rw [← h173w]; exact pw_g_ne (by omega) : pw_g h173 146 j = pw_g h169 146 j)).trans (by rw [← h169w]; exact pw_g_ne (by omega) : pw_g h169 146 j = pw_g h151 146 j)).trans (by rw [← h151w]; exact pw_g_ne (by omega) : pw_g h151 146 j = pw_g h115 146 j)).trans (by rw [← h115w]; exact pw_g_ne (by omega) : pw_g h115 146 j = pw_g h112 146 j)
                              have hl177 : ∀ j : Nat, pw_g h173 147 j = pw_g h112 147 j := fun j => ((((by rw [← h173w]; exact pw_g_ne (by omega) : pw_g h173 147 j = pw_g h169 147 j)).trans (by rw [← h169w]; exact pw_g_ne (by omega) : pw_g h169 147 j = pw_g h151 147 j)).trans (by rw [← h151w]; exact pw_g_ne (by omega) : pw_g h151 147 j = pw_g h115 147 j)).trans (by rw [← h115w]; exact pw_g_ne (by omega) : pw_g h115 147 j = pw_g h112 147 j)
                              have hl178 : ∀ j : Nat, pw_g h173 157 j = pw_g h115 157 j := fun j => (((by rw [← h173w]; exact pw_g_ne (by omega) : pw_g h173 157 j = pw_g h169 157 j)).trans (by rw [← h169w]; exact pw_g_ne (by omega) : pw_g h169 157 j = pw_g h151 157 j)).trans (by rw [← h151w]; exact pw_g_ne (by omega) : pw_g h151 157 j = pw_g h115 157 j)
                              have hl179 : ∀ j : Nat, pw_g h112 157 j = pw_g gh53 157 j := fun j => (pw_Eg (c := 157) I53 h112E rfl rfl j : pw_g h112 157 j = pw_g gh53 157 j)
                              have hw0 : pw_g h115 157 (ix.toNat) = pw_g h112 161 (Int.toNat 0) := by rw [← h115w]; exact pw_g_eqA h112I rfl (by omega) (by omega) (by omega)
                              have hw1 : ∀ j : Nat, j ≠ ix.toNat → pw_g h115 157 j = pw_g h112 157 j := fun j hj => by rw [← h115w]; exact pw_g_ne (fun q => hj q.2.symm)
                              have hkc : pw_KC gh53 h173 (5 + ix) (pw_g gh53 125 32) := ⟨fun j hj => ⟨(hl176 _).trans (hqkeep.1 j hj).1, (hl177 _).trans (hqkeep.1 j hj).2⟩, fun j hj => ⟨(hl176 _).trans (hqkeep.2 j hj).1, (hl177 _).trans (hqkeep.2 j hj).2⟩⟩
                              have cE : pw_E [146, 147, 157, 158, 159, 160] gh53 h173 := (((((h112E.wk (W' := [146, 147, 157, 158, 159, 160]) (by first | rfl | simp)).tr (h115E.wk (W' := [146, 147, 157, 158, 159, 160]) (by first | rfl | simp))).tr (h151E.wk (W' := [146, 147, 157, 158, 159, 160]) (by first | rfl | simp))).tr (h169E.wk (W' := [146, 147, 157, 158, 159, 160]) (by first | rfl | simp))).tr (h173E.wk (W' := [146, 147, 157, 158, 159, 160]) (by first | rfl | simp)))
                              have hk0 : K (pw_g gh53 125 7).toNat = 0 := by rw [← hx53_5.1]; first | assumption | omega
                              obtain ⟨-, th, C, N, hTI, hMW⟩ := hx53_6.resolve_right (fun q => by have := q.1; omega)
                              have hRe := hTI.en (by omega) hk0
                              rw [hRX] at hRe
                              have a0 : pw_g h173 157 ix.toNat = pw_g h112 161 (Int.toNat 0) := by
                                rw [← h173w, pw_g_ne (by omega), ← h169w, pw_g_ne (by omega), ← h151w, pw_g_ne (by omega), ← h115w]
                                exact pw_g_eqA h112I rfl (by omega) (by omega) (by omega)
                              have b0 : ∀ j : Nat, j ≠ ix.toNat → pw_g h173 157 j = pw_g gh53 157 j := fun j hj => by rw [← h173w, pw_g_ne (by omega), ← h169w, pw_g_ne (by omega), ← h151w, pw_g_ne (by omega), ← h115w, pw_g_ne (fun q => hj q.2.symm), pw_Eg (c := 157) I53 h112E rfl rfl j]
                              have m0 : ∀ j : Nat, pw_g h112 161 j = pw_g gh53 161 j := fun j => by rw [pw_Eg (c := 161) I53 h112E rfl rfl j]
                              have a1 : pw_g h173 158 ix.toNat = 0 := by
                                rw [← h173w, pw_g_ne (by omega), ← h169w, pw_g_ne (by omega), ← h151w]
                                exact pw_g_eqA h115I rfl (by omega) (by omega) (by omega)
                              have b1 : ∀ j : Nat, j ≠ ix.toNat → pw_g h173 158 j = pw_g gh53 158 j := fun j hj => by rw [← h173w, pw_g_ne (by omega), ← h169w, pw_g_ne (by omega), ← h151w, pw_g_ne (fun q => hj q.2.symm), ← h115w, pw_g_ne (by omega), pw_Eg (c := 158) I53 h112E rfl rfl j]
                              have m1 : ∀ j : Nat, pw_g h115 161 j = pw_g gh53 161 j := fun j => by rw [← h115w, pw_g_ne (by omega), pw_Eg (c := 161) I53 h112E rfl rfl j]
                              have a2 : pw_g h173 159 ix.toNat = 11 := by
                                rw [← h173w, pw_g_ne (by omega), ← h169w]
                                exact pw_g_eqA h151I rfl (by omega) (by omega) (by omega)
                              have b2 : ∀ j : Nat, j ≠ ix.toNat → pw_g h173 159 j = pw_g gh53 159 j := fun j hj => by rw [← h173w, pw_g_ne (by omega), ← h169w, pw_g_ne (fun q => hj q.2.symm), ← h151w, pw_g_ne (by omega), ← h115w, pw_g_ne (by omega), pw_Eg (c := 159) I53 h112E rfl rfl j]
                              have m2 : ∀ j : Nat, pw_g h151 161 j = pw_g gh53 161 j := fun j => by rw [← h151w, pw_g_ne (by omega), ← h115w, pw_g_ne (by omega), pw_Eg (c := 161) I53 h112E rfl rfl j]
                              have a3 : pw_g h173 160 ix.toNat = pw_g h169 161 (Int.toNat 3) := by
                                rw [← h173w]
                                exact pw_g_eqA h169I rfl (by omega) (by omega) (by omega)
                              have b3 : ∀ j : Nat, j ≠ ix.toNat → pw_g h173 160 j = pw_g gh53 160 j := fun j hj => by rw [← h173w, pw_g_ne (fun q => hj q.2.symm), ← h169w, pw_g_ne (by omega), ← h151w, pw_g_ne (by omega), ← h115w, pw_g_ne (by omega), pw_Eg (c := 160) I53 h112E rfl rfl j]
                              have m3 : ∀ j : Nat, pw_g h169 161 j = pw_g gh53 161 j := fun j => by rw [← h169w, pw_g_ne (by omega), ← h151w, pw_g_ne (by omega), ← h115w, pw_g_ne (by omega), pw_Eg (c := 161) I53 h112E rfl rfl j]
                              have hx1 := m1 1
                              have hx2 := m2 2
                              have hWS : pt_WS h173 ix th C N := hMW.wri (by omega) (by omega) hkc (a0.trans (m0 0)) ⟨fun q => by have a1 := a1; have m1 : pw_g _ 161 (Int.toNat 1) = _ := m1 1; omega, fun q => by have m1 : pw_g _ 161 (Int.toNat 1) = _ := m1 1; omega⟩ ⟨fun q => by have m2 : pw_g _ 161 (Int.toNat 2) = _ := m2 2; omega, fun q => by have m2 : pw_g _ 161 (Int.toNat 2) = _ := m2 2; omega⟩ (a3.trans (m3 3))
                              have hLV : pt_LV h h173 ix := ⟨fun j hj => (show pw_g h173 145 j = pw_g gh53 145 j by rw [← h173w, pw_g_ne (by omega), ← h169w, pw_g_ne (by omega), ← h151w, pw_g_ne (by omega), ← h115w, pw_g_ne (by omega), pw_Eg (c := 145) I53 h112E rfl rfl j]).trans (hx53_3.1 j hj), fun j q1 q2 => ⟨(hkc.2 j (by omega)).1.trans (hx53_3.2.1 j q1).1, (hkc.2 j (by omega)).2.trans (hx53_3.2.1 j q1).2⟩, fun j hj => ⟨(b0 j hj).trans (hx53_3.2.2 j), (b1 j hj).trans (hx53_8 j).1, (b2 j hj).trans (hx53_8 j).2.1, (b3 j hj).trans (hx53_8 j).2.2⟩⟩
                              exact ⟨h173I, h173F, (hp0.of hx53_3.1 hx53_3.2.1 hx53_3.2.2).wri (L := pw_g gh53 161 0) (by omega) (by omega) (hx53_2 (by omega)).1 (by omega) ((hl178 _).trans (hw0.trans (hl174 0))) (fun j hj => (hl178 j).trans ((hw1 j hj).trans (hl179 j))) hkc hl175, ⟨_, rfl, by omega, by omega, ⟨(pt_e2 cE rfl).trans hx53_7, fun q => absurd ⟨by omega, by omega⟩ q, fun _ _ => ⟨L, hsg, by rw [hRe], fun q => absurd rfl q, fun _ => ⟨by rw [hRe]; exact hWS, hLV⟩⟩⟩⟩⟩
                        · intro hc180
                          change ¬ (pw_g gh53 125 8 ≤ (0 : Int)) at hc180
                          exfalso; omega
                      · intro hc181
                        change ¬ (pw_g gh53 127 ((pw_g gh53 125 7).toNat) = (0 : Int)) at hc181
                        have hA53 : pw_g gh53 125 7 ≤ n ∧ 0 ≤ pw_g gh53 125 8 ∧ 0 ≤ pw_g gh53 125 7 ∧ 0 ≤ pw_g gh53 125 32 := hx53_0.2.2
                        have hn1 : n ≤ 1000 := hx53_0.1
                        refine pw_ld E (pc' := 73) (st' := [.ref 141]) rfl (fun _ => rfl) ?_
                        have hk0 : K (pw_g gh53 125 7).toNat ≠ 0 := by rw [← hx53_5.1]; first | assumption | omega
                        obtain ⟨-, th, C, N, hTI, hMW⟩ := hx53_6.resolve_right (fun q => by have := q.1; omega)
                        obtain ⟨f182l, f182h, -⟩ := pw_obj (c := 125) I53 rfl
                        refine pw_call (m' := 279) (As := [.ref 141]) (rest := []) (ls'' := [some (.ref 141), none, none]) (Nat.le_trans (by decide) hd) E rfl (fun _ => pw_iV rfl rfl rfl rfl (pw_cellI f182h rfl)) (rfl : pm_ent 279 = some (1, 3, 12, 4, pmc_279)) rfl rfl (pw_and (cm_279 (pw_dp hd (by decide)) I53 hx53_0 (by omega) hx53_4 hx53_2) (cm_279_t (by omega) I53 n K V P th C N hx53_0 (by omega) hx53_5 hnv (by omega) hk0 hMW)) ?_
                        rintro h183 v184 ⟨⟨h183I, h183E, ⟨rA, rQ, rL⟩, rfl⟩, ⟨-, -, ⟨rT, rX⟩, -⟩⟩
                        refine ⟨_, rfl, ?_⟩
                        have h183F := E53.tr (h183E.wk (W' := [125, 127, 128, 129, 146, 147, 157, 158, 159, 160, 161, 1002]) (by first | rfl | simp))
                        have rf : pw_g h183 125 7 ≤ n ∧ 0 ≤ pw_g h183 125 8 ∧ 0 ≤ pw_g h183 125 7 ∧ 0 ≤ pw_g h183 125 32 := rA.2.2
                        have rq : pw_g gh53 125 7 - pw_g gh53 125 32 + 0 ≤ pw_g h183 125 7 - pw_g h183 125 32 ∧ pw_g gh53 125 7 ≤ pw_g h183 125 7 := ⟨rQ.2.2.2.1, rQ.2.1⟩
                        have rp : pw_g h183 125 8 = 0 → pw_g gh53 125 7 < pw_g h183 125 7 := fun q => (rL q).2
                        have rV : pw_NV n h183 := pw_NV.E I53 h183E hx53_4 rfl
                        have rO : pw_O gh53 h183 := pw_O.q (by omega) rQ (fun j _ => pw_Eg (c := 145) I53 h183E rfl rfl j) (pw_Eg (c := 157) I53 h183E rfl rfl)
                        have r2 : pw_g h183 125 2 = 0 := (pt_e2 h183E rfl).trans hx53_7
                        have hst := hTI.st (by omega) hk0
                        have rR : pt_RW K V P n R h183 := by
                          rcases rX with ⟨q, e⟩ | ⟨q, e, e7, m⟩
                          · exact Or.inr ⟨q, by rw [hst.1 (by rw [e]; exact q)]; exact e⟩
                          · have hs2 := hst.2 e (by rw [← e7]; exact rp q)
                            rw [← e7] at hs2
                            exact Or.inl ⟨q, _, _, _, hs2, m⟩
                        clear rX hst
                        show pw X d h183 277 76 [some (.ref 141), some (pw_i ix), some (pw_i ((((0 + 1) + 1) + 1) + 1))] [] _
                        have rO8 : pt_O8 h h183 := fun j => by
                          obtain ⟨o1, o2, o3⟩ := hx53_8 j
                          rw [pw_Eg (c := 158) I53 h183E rfl rfl j, pw_Eg (c := 159) I53 h183E rfl rfl j, pw_Eg (c := 160) I53 h183E rfl rfl j]
                          exact ⟨o1, o2, o3⟩
                        refine pw_goto E (pc' := 53) rfl (by decide) ?_
                        exact ih53 _ (by omega)  h183 h183I h183F  rA (by omega) (fun q => (rL q).1) (hx53_3.tr rO) rV rT rR r2 rO8 rfl
                have he185 : pw_g h23 125 7 = pw_g h20 125 7 := by rw [← h23w]; exact pw_g_ne (by omega)
                have he186 : pw_g h20 125 7 = pw_g h17 125 7 := by rw [← h20w]; exact pw_g_ne (by omega)
                have he187 : pw_g h17 125 7 = pw_g h14 125 7 := by rw [← h17w]; exact pw_g_ne (by omega)
                have he188 : pw_g h14 125 7 = pw_g h11 125 7 := by rw [← h14w]; exact pw_g_ne (by omega)
                have he189 : pw_g h11 125 7 = pw_g h10 125 7 := by rw [← h11w]; exact pw_g_ne (by omega)
                have he190 : pw_g h10 125 7 = pw_g h8 125 7 := by rw [← h10w]; exact pw_g_ne (by omega)
                have he191 : pw_g h23 125 8 = pw_g h20 125 8 := by rw [← h23w]; exact pw_g_ne (by omega)
                have he192 : pw_g h20 125 8 = pw_g h17 125 8 := by rw [← h20w]; exact pw_g_ne (by omega)
                have he193 : pw_g h17 125 8 = pw_g h14 125 8 := by rw [← h17w]; exact pw_g_ne (by omega)
                have he194 : pw_g h14 125 8 = pw_g h11 125 8 := by rw [← h14w]; exact pw_g_ne (by omega)
                have he195 : pw_g h11 125 8 = pw_g h10 125 8 := by rw [← h11w]; exact pw_g_ne (by omega)
                have he196 : pw_g h10 125 8 = pw_g h8 125 8 := by rw [← h10w]; exact pw_g_ne (by omega)
                have he197 : pw_g h23 125 32 = pw_g h20 125 32 := by rw [← h23w]; exact pw_g_ne (by omega)
                have he198 : pw_g h20 125 32 = pw_g h17 125 32 := by rw [← h20w]; exact pw_g_ne (by omega)
                have he199 : pw_g h17 125 32 = pw_g h14 125 32 := by rw [← h17w]; exact pw_g_ne (by omega)
                have he200 : pw_g h14 125 32 = pw_g h11 125 32 := by rw [← h14w]; exact pw_g_ne (by omega)
                have he201 : pw_g h11 125 32 = pw_g h10 125 32 := by rw [← h11w]; exact pw_g_ne (by omega)
                have he202 : pw_g h10 125 32 = 0 := by rw [← h10w]; exact pw_g_eq (c := 125) (k := 32) h8I rfl rfl (by omega) (by omega)
                exact L53 _  h23 h23I h23F  bA (by omega) (fun _ => bL) bO bV bT bR b2 bO8 rfl
              · intro hc203
                change ¬ ((4 : Int) ≤ (((0 + 1) + 1) + 1) + 1) at hc203
                exfalso; omega
    · intro hc204
      change ¬ (x4 ≠ (0 : Int)) at hc204
      exfalso; omega
  · skip
    refine pw_if E (pc' := 19) rfl (by decide) (by omega) (by omega) ?_ ?_
    · intro hc206
      change x4 ≠ (0 : Int) at hc206
      exfalso; omega
    · intro hc207
      change ¬ (x4 ≠ (0 : Int)) at hc207
      refine pw_ld E (pc' := 13) (st' := [.ref 141]) rfl (fun _ => rfl) ?_
      refine pw_ld E (pc' := 14) (st' := [pw_i 0, .ref 141]) rfl (fun _ => rfl) ?_
      refine pw_putP h1I E (k := 2) (pc' := 17) rfl rfl rfl rfl (by omega) (by omega) (by omega) (by omega) rfl rfl ?_
      intro h208I h208E
      generalize h208w : pw_w h1 125 2 (pw_i 0) = h208 at h208I h208E ⊢
      have h208F := h1F.tr (h208E.wk (W' := [125, 127, 128, 129, 146, 147, 157, 158, 159, 160, 161, 1002]) (by first | rfl | simp))
      refine pw_ld E (pc' := 18) (st' := [pw_i ((-1))]) rfl (fun _ => rfl) ?_
      refine pw_iret E rfl ?_
      have hl209 : ∀ j : Nat, pw_g h208 145 j = pw_g h 145 j := fun j => ((by rw [← h208w]; exact pw_g_ne (by omega) : pw_g h208 145 j = pw_g h1 145 j)).trans (by rw [← h1w]; exact pw_g_ne (by omega) : pw_g h1 145 j = pw_g h 145 j)
      have hl210 : ∀ j : Nat, pw_g h208 146 j = pw_g h 146 j := fun j => ((by rw [← h208w]; exact pw_g_ne (by omega) : pw_g h208 146 j = pw_g h1 146 j)).trans (by rw [← h1w]; exact pw_g_ne (by omega) : pw_g h1 146 j = pw_g h 146 j)
      have hl211 : ∀ j : Nat, pw_g h208 147 j = pw_g h 147 j := fun j => ((by rw [← h208w]; exact pw_g_ne (by omega) : pw_g h208 147 j = pw_g h1 147 j)).trans (by rw [← h1w]; exact pw_g_ne (by omega) : pw_g h1 147 j = pw_g h 147 j)
      have hl212 : ∀ j : Nat, pw_g h208 157 j = pw_g h 157 j := fun j => ((by rw [← h208w]; exact pw_g_ne (by omega) : pw_g h208 157 j = pw_g h1 157 j)).trans (by rw [← h1w]; exact pw_g_ne (by omega) : pw_g h1 157 j = pw_g h 157 j)
      have ht2 : pw_g h208 125 2 = 0 := by rw [← h208w]; exact pw_g_eq (c := 125) (k := 2) h1I rfl rfl (by omega) (by omega)
      have u145 : ∀ j : Nat, pw_g h208 145 j = pw_g h 145 j := fun j => by rw [← h208w, pw_g_ne (by omega), ← h1w, pw_g_ne (by omega)]
      have u146 : ∀ j : Nat, pw_g h208 146 j = pw_g h 146 j := fun j => by rw [← h208w, pw_g_ne (by omega), ← h1w, pw_g_ne (by omega)]
      have u147 : ∀ j : Nat, pw_g h208 147 j = pw_g h 147 j := fun j => by rw [← h208w, pw_g_ne (by omega), ← h1w, pw_g_ne (by omega)]
      have u157 : ∀ j : Nat, pw_g h208 157 j = pw_g h 157 j := fun j => by rw [← h208w, pw_g_ne (by omega), ← h1w, pw_g_ne (by omega)]
      exact ⟨h208I, h208F, hp0.cg hl209 hl210 hl211 hl212, ⟨_, rfl, by omega, by omega, ⟨ht2, fun _ => ⟨rfl, ⟨fun j _ => u145 j, fun j _ => ⟨u146 j, u147 j⟩, u157⟩, fun j => ⟨by rw [← h208w, pw_g_ne (by omega), ← h1w, pw_g_ne (by omega)], by rw [← h208w, pw_g_ne (by omega), ← h1w, pw_g_ne (by omega)], by rw [← h208w, pw_g_ne (by omega), ← h1w, pw_g_ne (by omega)]⟩⟩, fun q1 q2 => by exfalso; omega⟩⟩⟩
end
section
/-! a line's value, a line's number -/
set_option maxHeartbeats 4000000 in
theorem cm_74_99x {X : List (Nat × List Value)} {d : Nat} {h : pm_H} (hd : 4 ≤ d) (I : pw_I h) (c : Nat) (hc : pw_Sc c) (li : Int) (hli1 : 0 ≤ li) (hli2 : li ≤ 3) (wo : Int) (hwo1 : (-2147483648) ≤ wo) (hwo2 : wo ≤ 2147483647) (th : Int → Int) (C : Int → List Int) (N : Int → Int) (hp0 : px_SL 0 h c th C N li) (hp1 : th li = 1 → pe_ok 9 (C li) ∧ pe_h (C li) = 1) : pw X d h 74 0 [some (.ref (16 + c)), some (pw_i li), some (.ref 115), some (pw_i wo)] [] (fun h' v => pw_I h' ∧ pw_E [c + 5] h h' ∧ ∃ a : Int, v = .inl (some (pw_i a)) ∧ (-2147483648) ≤ a ∧ a ≤ 2147483647 ∧ ((th li = 1 ∧ a = (pe_s (pe_F h 99 10) (C li)).getD 0 0) ∨ (th li = 0 ∧ a = wo))) := by
  have E : pm_ent 74 = some (4, 4, 7, 0, pmc_74) := rfl
  have E0 : pw_E [c + 5] h h := pw_E.rf _ _
  refine pw_ld E (pc' := 1) (st' := [.ref (16 + c)]) rfl (fun _ => rfl) ?_
  refine pw_getR (b := 16 + (c + 1)) I E (c := c) (k := 2) (pc' := 4) rfl rfl (pw_Sc_o hc) rfl rfl rfl rfl ?_
  refine pw_ld E (pc' := 5) (st' := [pw_i li, .ref (16 + (c + 1))]) rfl (fun _ => rfl) ?_
  refine pw_ald2 I E (c := c + 1) (pc' := 6) rfl rfl (pw_Sc_1 hc) (by decide) rfl (by decide) (by omega) (by omega) rfl (fun hf1a hf1b => ?_)
  refine pw_if E (pc' := 18) rfl (by decide) (by omega) (by omega) ?_ ?_
  · intro hc2
    change pw_g h (c + 1) (li.toNat) = (0 : Int) at hc2
    have hth0 : th li = 0 := by have e := hp0.1; omega
    refine pw_ld E (pc' := 19) (st' := [pw_i wo]) rfl (fun _ => rfl) ?_
    refine pw_iret E rfl ?_
    exact ⟨I, E0, ⟨_, rfl, by omega, by omega, Or.inr ⟨hth0, rfl⟩⟩⟩
  · intro hc3
    change ¬ (pw_g h (c + 1) (li.toNat) = (0 : Int)) at hc3
    have hth1 : th li = 1 := by have e := hp0.1; rcases hp0.2 with q | q <;> omega
    obtain ⟨-, hLC, hLN⟩ := hp0.2.resolve_left (fun q => by omega)
    have hok := hp1 hth1
    refine pw_ld E (pc' := 10) (st' := [.ref (16 + c)]) rfl (fun _ => rfl) ?_
    refine pw_ld E (pc' := 11) (st' := [pw_i li, .ref (16 + c)]) rfl (fun _ => rfl) ?_
    refine pw_ld E (pc' := 12) (st' := [.ref 115, pw_i li, .ref (16 + c)]) rfl (fun _ => rfl) ?_
    obtain ⟨f4l, f4h, -⟩ := pw_obj (c := c) I (pw_Sc_o hc)
    refine pw_call (m' := 75) (As := [.ref (16 + c), pw_i li, .ref 115]) (rest := []) (ls'' := [some (.ref (16 + c)), some (pw_i li), some (.ref 115), none, none, none]) (Nat.le_trans (by decide) hd) E rfl (fun _ => pw_iV rfl rfl rfl rfl (pw_cellI f4h rfl)) (rfl : pm_ent 75 = some (3, 6, 7, 0, pmc_75)) rfl rfl (cm_75_99x (pw_dp hd (by decide)) I c hc (li) (by omega) (by omega) (C li) hLC hok.1 hok.2) ?_
    rintro h5 v6 ⟨h5I, h5E, x7, rfl, hx7a, hx7b, hx7r⟩
    refine ⟨_, rfl, ?_⟩
    have h5F := E0.tr (h5E.wk (W' := [c + 5]) (by first | rfl | simp))
    show pw X d h5 74 15 [some (.ref (16 + c)), some (pw_i li), some (.ref 115), some (pw_i wo)] [pw_i x7] _
    change x7 = (pe_s (pe_F h 99 10) (C li)).getD 0 0 at hx7r
    refine pw_goto E (pc' := 19) rfl (by decide) ?_
    refine pw_iret E rfl ?_
    exact ⟨h5I, h5F, ⟨_, rfl, by omega, by omega, Or.inl ⟨hth1, hx7r⟩⟩⟩
end
section
/-! values: the model's -/
theorem pe_hB {B : Int} : ∀ c : List Int, pe_ok B c → 0 ≤ pe_h c ∧ pe_h c ≤ 40 := by
  intro c
  induction c with
  | nil => intro _; exact ⟨Int.le_refl _, by decide⟩
  | cons x c ih =>
    intro h
    obtain ⟨h1, h2, h3, h4, -⟩ := h
    have i := ih h1
    have e : pe_h (x :: c) = pe_h c + (if 0 ≤ x then 1 else if x = -8 then 0 else -1) := rfl
    rw [e]
    by_cases a : 0 ≤ x
    · rw [if_pos a]; have := h2 a; omega
    rw [if_neg a]
    by_cases b : x = -8
    · rw [if_pos b]; omega
    · rw [if_neg b]; have := h4 (by omega) b; omega
/-- what of a code has been walked -/
def pe_dr (c : List Int) (j : Nat) : List Int := c.drop (c.length - j)
theorem pe_dr0 {c : List Int} : pe_dr c 0 = [] := by
  unfold pe_dr
  rw [Nat.sub_zero]
  exact List.drop_length
theorem pe_drN {c : List Int} : pe_dr c c.length = c := by
  unfold pe_dr
  rw [Nat.sub_self]
  rfl
theorem pe_drC {x : Int} {c : List Int} {j : Nat} (h : j ≤ c.length) : pe_dr (x :: c) j = pe_dr c j := by
  unfold pe_dr
  rw [List.length_cons, show c.length + 1 - j = (c.length - j) + 1 by omega]
  rfl
theorem pe_step {g : pm_H} {B : Nat} {W : Int} : ∀ {c : List Int}, pt_cl g B c → pe_ok W c → ∀ j : Nat, j < c.length → ∃ x : Int, pe_dr c (j + 1) = x :: pe_dr c j ∧ pt_en (pw_g g 146 (B + j)) (pw_g g 147 (B + j)) x ∧ pe_ok W (x :: pe_dr c j) := by
  intro c
  induction c with
  | nil => intro _ _ j hj; exact absurd hj (Nat.not_lt_zero j)
  | cons x r ih =>
    intro H K j hj
    have hl : (x :: r).length = r.length + 1 := rfl
    by_cases q : j = r.length
    · subst q
      refine ⟨x, ?_, H.1, ?_⟩
      · rw [pe_drC (Nat.le_refl _), pe_drN]
        exact pe_drN (c := x :: r)
      · rw [pe_drC (Nat.le_refl _), pe_drN]
        exact K
    · obtain ⟨y, a1, a2, a3⟩ := ih H.2 K.1 j (by omega)
      rw [pe_drC (by omega), pe_drC (by omega)]
      exact ⟨y, a1, a2, a3⟩
/-- the pile of the model -/
def pe_PL (g : pm_H) (F : Int → Int) (f : Int) (c : List Int) (i z : Int) : Prop := ∃ j : Nat, j ≤ c.length ∧ i = f + j ∧ z = pe_h (pe_dr c j) ∧ px_st (pw_g g 150) z.toNat = pe_s F (pe_dr c j)
theorem pe_PL.z {g : pm_H} {F : Int → Int} {f : Int} {c : List Int} : pe_PL g F f c f 0 := ⟨0, Nat.zero_le _, by omega, by rw [pe_dr0]; rfl, by rw [pe_dr0]; rfl⟩
end
section
/-! the model's operations, exactly -/
set_option maxHeartbeats 4000000 in
theorem cm_265_x {X : List (Nat × List Value)} {d : Nat} {h : pm_H} (hd : 1 ≤ d) (I : pw_I h) (c : Int) (hc1 : 4 ≤ c) (hc2 : c ≤ 10) (x : Int) (hx1 : (-2147483648) ≤ x) (hx2 : x ≤ 2147483647) (y : Int) (hy1 : (-2147483648) ≤ y) (hy2 : y ≤ 2147483647) (o : Int) (hp0 : (c = 4 ∧ o = 5) ∨ (c = 5 ∧ o = 6) ∨ (c = 6 ∧ o = 7) ∨ (c = 7 ∧ o = 3) ∨ (c = 8 ∧ o = 4) ∨ (c = 9 ∧ o = 1) ∨ (c = 10 ∧ o = 2)) : pw X d h 265 0 [some (pw_i c), some (pw_i x), some (pw_i y)] [] (fun h' v => h = h' ∧ ∃ a : Int, v = .inl (some (pw_i a)) ∧ (-2147483648) ≤ a ∧ a ≤ 2147483647 ∧ (a = pe_op o x y)) := by
  have E : pm_ent 265 = some (3, 3, 12, 0, pmc_265) := rfl
  refine pw_ld E (pc' := 1) (st' := [pw_i c]) rfl (fun _ => rfl) ?_
  rcases (by omega : c = 4 ∨ c = 5 ∨ c = 6 ∨ c = 7 ∨ c = 8 ∨ c = 9 ∨ (c < 4 ∨ 9 < c)) with hs1 | hs1 | hs1 | hs1 | hs1 | hs1 | hs1
  · refine pw_tswJ (o := 39) E (pc' := 40) rfl (by omega) (by omega) (by omega) (by rw [hs1]; rfl) (by decide) ?_
    refine pw_ld E (pc' := 41) (st' := [pw_i x]) rfl (fun _ => rfl) ?_
    refine pw_ld E (pc' := 42) (st' := [pw_i y, pw_i x]) rfl (fun _ => rfl) ?_
    refine pw_add E (pc' := 43) rfl rfl ?_
    refine pe_nm ?_
    have hw2 := pe_wrB (x + y)
    refine pw_iret E rfl ?_
    exact ⟨rfl, ⟨_, rfl, by omega, by omega, by rw [show o = 5 by omega, pe_op5]⟩⟩
  · refine pw_tswJ (o := 43) E (pc' := 44) rfl (by omega) (by omega) (by omega) (by rw [hs1]; rfl) (by decide) ?_
    refine pw_ld E (pc' := 45) (st' := [pw_i x]) rfl (fun _ => rfl) ?_
    refine pw_ld E (pc' := 46) (st' := [pw_i y, pw_i x]) rfl (fun _ => rfl) ?_
    refine pw_sub E (pc' := 47) rfl rfl ?_
    refine pe_nm ?_
    have hw3 := pe_wrB (x - y)
    refine pw_iret E rfl ?_
    exact ⟨rfl, ⟨_, rfl, by omega, by omega, by rw [show o = 6 by omega, pe_op6]⟩⟩
  · refine pw_tswJ (o := 47) E (pc' := 48) rfl (by omega) (by omega) (by omega) (by rw [hs1]; rfl) (by decide) ?_
    refine pw_ld E (pc' := 49) (st' := [pw_i x]) rfl (fun _ => rfl) ?_
    refine pw_ld E (pc' := 50) (st' := [pw_i y, pw_i x]) rfl (fun _ => rfl) ?_
    refine pw_mul E (pc' := 51) rfl rfl ?_
    refine pe_nm ?_
    have hw4 := pe_wrB (x * y)
    refine pw_iret E rfl ?_
    exact ⟨rfl, ⟨_, rfl, by omega, by omega, by rw [show o = 7 by omega, pe_op7]⟩⟩
  · refine pw_tswJ (o := 51) E (pc' := 52) rfl (by omega) (by omega) (by omega) (by rw [hs1]; rfl) (by decide) ?_
    refine pw_ld E (pc' := 53) (st' := [pw_i x]) rfl (fun _ => rfl) ?_
    refine pw_ld E (pc' := 54) (st' := [pw_i y, pw_i x]) rfl (fun _ => rfl) ?_
    refine pw_if2 E (pc' := 61) rfl (by decide) (by omega) (by omega) (by omega) (by omega) ?_ ?_
    · intro hc5
      change y ≤ x at hc5
      refine pw_ld E (pc' := 62) (st' := [pw_i 0]) rfl (fun _ => rfl) ?_
      refine pw_iret E rfl ?_
      exact ⟨rfl, ⟨_, rfl, by omega, by omega, by rw [show o = 3 by omega, pe_op3]; first | exact (if_pos (by omega)).symm | exact (if_neg (by omega)).symm⟩⟩
    · intro hc6
      change ¬ (y ≤ x) at hc6
      refine pw_ld E (pc' := 58) (st' := [pw_i 1]) rfl (fun _ => rfl) ?_
      refine pw_goto E (pc' := 62) rfl (by decide) ?_
      refine pw_iret E rfl ?_
      exact ⟨rfl, ⟨_, rfl, by omega, by omega, by rw [show o = 3 by omega, pe_op3]; first | exact (if_pos (by omega)).symm | exact (if_neg (by omega)).symm⟩⟩
  · refine pw_tswJ (o := 62) E (pc' := 63) rfl (by omega) (by omega) (by omega) (by rw [hs1]; rfl) (by decide) ?_
    refine pw_ld E (pc' := 64) (st' := [pw_i x]) rfl (fun _ => rfl) ?_
    refine pw_ld E (pc' := 65) (st' := [pw_i y, pw_i x]) rfl (fun _ => rfl) ?_
    refine pw_if2 E (pc' := 72) rfl (by decide) (by omega) (by omega) (by omega) (by omega) ?_ ?_
    · intro hc7
      change x ≠ y at hc7
      refine pw_ld E (pc' := 73) (st' := [pw_i 0]) rfl (fun _ => rfl) ?_
      refine pw_iret E rfl ?_
      exact ⟨rfl, ⟨_, rfl, by omega, by omega, by rw [show o = 4 by omega, pe_op4]; first | exact (if_pos (by omega)).symm | exact (if_neg (by omega)).symm⟩⟩
    · intro hc8
      change ¬ (x ≠ y) at hc8
      refine pw_ld E (pc' := 69) (st' := [pw_i 1]) rfl (fun _ => rfl) ?_
      refine pw_goto E (pc' := 73) rfl (by decide) ?_
      refine pw_iret E rfl ?_
      exact ⟨rfl, ⟨_, rfl, by omega, by omega, by rw [show o = 4 by omega, pe_op4]; first | exact (if_pos (by omega)).symm | exact (if_neg (by omega)).symm⟩⟩
  · refine pw_tswJ (o := 73) E (pc' := 74) rfl (by omega) (by omega) (by omega) (by rw [hs1]; rfl) (by decide) ?_
    refine pw_ld E (pc' := 75) (st' := [pw_i x]) rfl (fun _ => rfl) ?_
    refine pw_if E (pc' := 86) rfl (by decide) (by omega) (by omega) ?_ ?_
    · intro hc9
      change x = (0 : Int) at hc9
      refine pw_ld E (pc' := 87) (st' := [pw_i 0]) rfl (fun _ => rfl) ?_
      refine pw_iret E rfl ?_
      exact ⟨rfl, ⟨_, rfl, by omega, by omega, by rw [show o = 1 by omega, pe_op1]; first | exact (if_pos (by omega)).symm | exact (if_neg (by omega)).symm⟩⟩
    · intro hc10
      change ¬ (x = (0 : Int)) at hc10
      refine pw_ld E (pc' := 79) (st' := [pw_i y]) rfl (fun _ => rfl) ?_
      refine pw_if E (pc' := 86) rfl (by decide) (by omega) (by omega) ?_ ?_
      · intro hc11
        change y = (0 : Int) at hc11
        refine pw_ld E (pc' := 87) (st' := [pw_i 0]) rfl (fun _ => rfl) ?_
        refine pw_iret E rfl ?_
        exact ⟨rfl, ⟨_, rfl, by omega, by omega, by rw [show o = 1 by omega, pe_op1]; first | exact (if_pos (by omega)).symm | exact (if_neg (by omega)).symm⟩⟩
      · intro hc12
        change ¬ (y = (0 : Int)) at hc12
        refine pw_ld E (pc' := 83) (st' := [pw_i 1]) rfl (fun _ => rfl) ?_
        refine pw_goto E (pc' := 87) rfl (by decide) ?_
        refine pw_iret E rfl ?_
        exact ⟨rfl, ⟨_, rfl, by omega, by omega, by rw [show o = 1 by omega, pe_op1]; first | exact (if_pos (by omega)).symm | exact (if_neg (by omega)).symm⟩⟩
  · refine pw_tswD E (pc' := 88) rfl (by omega) (by omega) hs1 (by decide) ?_
    refine pw_ld E (pc' := 89) (st' := [pw_i x]) rfl (fun _ => rfl) ?_
    refine pw_if E (pc' := 96) rfl (by decide) (by omega) (by omega) ?_ ?_
    · intro hc13
      change x ≠ (0 : Int) at hc13
      refine pw_ld E (pc' := 97) (st' := [pw_i 1]) rfl (fun _ => rfl) ?_
      refine pw_goto E (pc' := 101) rfl (by decide) ?_
      refine pw_iret E rfl ?_
      exact ⟨rfl, ⟨_, rfl, by omega, by omega, by rw [show o = 2 by omega, pe_op2]; first | exact (if_pos (by omega)).symm | exact (if_neg (by omega)).symm⟩⟩
    · intro hc14
      change ¬ (x ≠ (0 : Int)) at hc14
      refine pw_ld E (pc' := 93) (st' := [pw_i y]) rfl (fun _ => rfl) ?_
      refine pw_if E (pc' := 100) rfl (by decide) (by omega) (by omega) ?_ ?_
      · intro hc15
        change y = (0 : Int) at hc15
        refine pw_ld E (pc' := 101) (st' := [pw_i 0]) rfl (fun _ => rfl) ?_
        refine pw_iret E rfl ?_
        exact ⟨rfl, ⟨_, rfl, by omega, by omega, by rw [show o = 2 by omega, pe_op2]; first | exact (if_pos (by omega)).symm | exact (if_neg (by omega)).symm⟩⟩
      · intro hc16
        change ¬ (y = (0 : Int)) at hc16
        refine pw_ld E (pc' := 97) (st' := [pw_i 1]) rfl (fun _ => rfl) ?_
        refine pw_goto E (pc' := 101) rfl (by decide) ?_
        refine pw_iret E rfl ?_
        exact ⟨rfl, ⟨_, rfl, by omega, by omega, by rw [show o = 2 by omega, pe_op2]; first | exact (if_pos (by omega)).symm | exact (if_neg (by omega)).symm⟩⟩
end
