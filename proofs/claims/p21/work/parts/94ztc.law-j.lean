section
/-! a law of the model, exactly -/
set_option maxHeartbeats 4000000 in
theorem cm_237_t {X : List (Nat × List Value)} {d : Nat} {h : pm_H} (hd : 34 ≤ d) (I : pw_I h) (l : Int) (hl1 : (-2147483648) ≤ l) (hl2 : l ≤ 2147483647) (hp0 : pw_K h) (hp1 : pt_WK h) : pw X d h 237 0 [some (.ref 141), some (pw_i l), none] [] (fun h' v => pw_I h' ∧ pw_E [125, 127, 128, 129, 145, 146, 147, 1002] h h' ∧ (pw_K h') ∧ (∃ a : Int, v = .inl (some (pw_i a)) ∧ (-2147483648) ≤ a ∧ a ≤ 2147483647 ∧ (pw_g h' 125 2 = 0 ∧ (¬ (0 ≤ l ∧ l ≤ 3) → a = -1 ∧ pw_O h h') ∧ (0 ≤ l → l ≤ 3 → ∃ L : List pt_tok, pt_sg (pw_g h 126) (pw_g h 125 2).toNat 0 L (pw_g h 125 2).toNat ∧ a = (pt_TX 0 L (pw_g h 125 2).toNat).1 ∧ (a ≠ 0 → pw_O h h') ∧ (a = 0 → pt_MS h' l (pt_TX 0 L (pw_g h 125 2).toNat).2.1 (pt_TX 0 L (pw_g h 125 2).toNat).2.2.1 ∧ pt_LO h h' l))))) := by
  have E : pm_ent 237 = some (2, 3, 12, 0, pmc_237) := rfl
  have E0 : pw_E [125, 127, 128, 129, 145, 146, 147, 1002] h h := pw_E.rf _ _
  refine pw_ld E (pc' := 1) (st' := [.ref 141]) rfl (fun _ => rfl) ?_
  refine pw_ld E (pc' := 2) (st' := [pw_i 0, .ref 141]) rfl (fun _ => rfl) ?_
  refine pw_putI I E (c := 125) (k := 0) (pc' := 5) rfl rfl rfl rfl (by omega) (by omega) (by omega) (by omega) rfl rfl ?_
  intro h1I h1E
  generalize h1w : pw_w h 125 0 (pw_i 0) = h1 at h1I h1E ⊢
  have h1F := E0.tr (h1E.wk (W' := [125, 127, 128, 129, 145, 146, 147, 1002]) (by first | rfl | simp))
  refine pw_ld E (pc' := 6) (st' := [pw_i l]) rfl (fun _ => rfl) ?_
  refine pw_ld E (pc' := 7) (st' := [pw_i 0, pw_i l]) rfl (fun _ => rfl) ?_
  refine pw_ld E (pc' := 8) (st' := [pw_i 3, pw_i 0, pw_i l]) rfl (fun _ => rfl) ?_
  refine pw_call (m' := 202) (As := [pw_i l, pw_i 0, pw_i 3]) (rest := []) (ls'' := [some (pw_i l), some (pw_i 0), some (pw_i 3)]) (Nat.le_trans (by decide) hd) E rfl (fun _ => pw_iS rfl rfl rfl) (rfl : pm_ent 202 = some (3, 3, 12, 1, pmc_202)) rfl rfl (cm_202 (pw_dp hd (by decide)) h1I (l) (by omega) (by omega) (0) (by omega) (by omega) (3) (by omega) (by omega)) ?_
  rintro u3 v2 ⟨rfl, x4, rfl, hx4a, hx4b, hx4r⟩
  refine ⟨_, rfl, ?_⟩
  show pw X d h1 237 11 [some (.ref 141), some (pw_i l), none] [pw_i x4] _
  change (x4 = 1 ∧ 0 ≤ l ∧ l ≤ 3) ∨ (x4 = 0 ∧ ¬ (0 ≤ l ∧ l ≤ 3)) at hx4r
  rcases (by omega : x4 = 1 ∨ x4 = 0) with hb5 | hb5
  · skip
    refine pw_if E (pc' := 21) rfl (by decide) (by omega) (by omega) ?_ ?_
    · intro hc6
      change x4 ≠ (0 : Int) at hc6
      refine pw_ld E (pc' := 22) (st' := [.ref 141]) rfl (fun _ => rfl) ?_
      obtain ⟨f7l, f7h, -⟩ := pw_obj (c := 125) h1I rfl
      refine pw_call (m' := 238) (As := [.ref 141]) (rest := []) (ls'' := [some (.ref 141), none, none, none, none, none, none]) (Nat.le_trans (by decide) hd) E rfl (fun _ => pw_iV rfl rfl rfl rfl (pw_cellI f7h rfl)) (rfl : pm_ent 238 = some (1, 7, 12, 4, pmc_238)) rfl rfl (cm_238_t (pw_dp hd (by decide)) h1I ) ?_
      rintro h8 v9 ⟨h8I, h8E, hqtok, rfl⟩
      refine ⟨_, rfl, ?_⟩
      have h8F := h1F.tr (h8E.wk (W' := [125, 127, 128, 129, 145, 146, 147, 1002]) (by first | rfl | simp))
      show pw X d h8 237 25 [some (.ref 141), some (pw_i l), none] [] _
      obtain ⟨L, hA0, hz7, hz8, hsg, hLI, hKn, hPn, ht2⟩ := hqtok
      have hZ : pw_g h1 125 2 = pw_g h 125 2 := by rw [← h1w]; exact pw_g_ne (by omega)
      have hT : pw_g h1 126 = pw_g h 126 := funext fun j => by rw [← h1w]; exact pw_g_ne (by omega)
      rw [hZ, hT] at hsg
      rw [hZ] at hPn
      have hz0 : 0 ≤ pw_g h 125 2 := (pw_gI (c := 125) (k := 2) I rfl rfl).1
      have hAG := pt_AG.of hLI hKn hPn hz0
      have hnv : ∀ j : Nat, j < L.length → pw_g h8 127 j = 2 → 0 ≤ pw_gm h8 129 j ∧ pw_gm h8 129 j ≤ 9999 := fun j hj q => by obtain ⟨a, b, -⟩ := hLI j hj; rw [a] at q; rw [b]; exact hsg.nv j q
      have hTX := pt_text_ag (wr := 0) hAG (L.length + 1) 0 (fun _ => 0) (fun _ => []) (fun _ => 0) (by omega)
      have hWc : pt_WK h8 := hp1.E I h8F rfl
      have hKK : ∃ K : Nat → Int, K = pw_g h8 127 := ⟨_, rfl⟩
      have hVV : ∃ V : Nat → Int, V = pw_gm h8 129 := ⟨_, rfl⟩
      have hPP : ∃ P : Nat → Int, P = pw_g h8 128 := ⟨_, rfl⟩
      obtain ⟨K, hK⟩ := hKK
      obtain ⟨V, hV⟩ := hVV
      obtain ⟨P, hP⟩ := hPP
      rw [← hK, ← hV, ← hP] at hTX
      rw [← hK, ← hV] at hnv
      rw [← hK] at hKn
      have hRR : ∃ R : pt_TR, R = pt_text 0 K V P (L.length + 1) 0 (fun _ => 0) (fun _ => []) (fun _ => 0) := ⟨_, rfl⟩
      obtain ⟨R, hR⟩ := hRR
      have hRX : R = pt_TX 0 L (pw_g h 125 2).toNat := hR.trans hTX
      have hnn : ∃ n : Nat, n = L.length := ⟨_, rfl⟩
      obtain ⟨n, hn⟩ := hnn
      rw [← hn] at hA0 hnv hR hKn
      refine pw_ld E (pc' := 26) (st' := [.ref 141]) rfl (fun _ => rfl) ?_
      refine pw_ld E (pc' := 27) (st' := [pw_i 0, .ref 141]) rfl (fun _ => rfl) ?_
      refine pw_putI h8I E (c := 125) (k := 32) (pc' := 30) rfl rfl rfl rfl (by omega) (by omega) (by omega) (by omega) rfl rfl ?_
      intro h10I h10E
      generalize h10w : pw_w h8 125 32 (pw_i 0) = h10 at h10I h10E ⊢
      have h10F := h8F.tr (h10E.wk (W' := [125, 127, 128, 129, 145, 146, 147, 1002]) (by first | rfl | simp))
      refine pw_ld E (pc' := 31) (st' := [.ref 141]) rfl (fun _ => rfl) ?_
      refine pw_ld E (pc' := 32) (st' := [pw_i 0, .ref 141]) rfl (fun _ => rfl) ?_
      refine pw_putZ h10I E (c := 125) (k := 45) (pc' := 35) rfl rfl rfl rfl (by omega) (by omega) (by omega) rfl rfl ?_
      intro h11I h11E
      generalize h11w : pw_w h10 125 45 (pw_i 0) = h11 at h11I h11E ⊢
      have h11F := h10F.tr (h11E.wk (W' := [125, 127, 128, 129, 145, 146, 147, 1002]) (by first | rfl | simp))
      refine pw_ld E (pc' := 36) (st' := [pw_i 0]) rfl (fun _ => rfl) ?_
      refine pw_istn E (pc' := 37) (ls' := [some (.ref 141), some (pw_i l), some (pw_i 0)]) rfl rfl rfl rfl ?_
      refine pw_ld E (pc' := 38) (st' := [pw_i 0]) rfl (fun _ => rfl) ?_
      refine pw_ld E (pc' := 39) (st' := [pw_i 4, pw_i 0]) rfl (fun _ => rfl) ?_
      refine pw_if2 E (pc' := 58) rfl (by decide) (by decide) (by decide) (by decide) (by decide) ?_ ?_
      · intro hc12
        change (4 : Int) ≤ (0 : Int) at hc12
        exfalso; omega
      · intro hc13
        change ¬ ((4 : Int) ≤ (0 : Int)) at hc13
        refine pw_ld E (pc' := 43) (st' := [.ref 141]) rfl (fun _ => rfl) ?_
        refine pw_getR (b := 161) h11I E (c := 125) (k := 31) (pc' := 46) rfl rfl rfl rfl rfl rfl rfl ?_
        refine pw_bip E (pc' := 48) rfl rfl (by decide) ?_
        refine pw_ld E (pc' := 49) (st' := [pw_i 0, pw_i 16, .ref 161]) rfl (fun _ => rfl) ?_
        refine pw_add E (pc' := 50) rfl rfl ?_
        refine pw_ld E (pc' := 51) (st' := [pw_i ((-1)), pw_i (16 + 0), .ref 161]) rfl (fun _ => rfl) ?_
        refine pw_ast0 h11I E (c := 145) (pc' := 52) rfl rfl rfl (by decide) rfl (by decide) (by omega) (by omega) rfl (by omega) (by omega) (by omega) (by omega) rfl ?_
        intro h14I h14E
        generalize h14w : pw_w h11 145 (((16 + 0) : Int).toNat) (pw_i ((-1))) = h14 at h14I h14E ⊢
        have h14F := h11F.tr (h14E.wk (W' := [125, 127, 128, 129, 145, 146, 147, 1002]) (by first | rfl | simp))
        refine pw_inc E (pc' := 55) (ls' := [some (.ref 141), some (pw_i l), some (pw_i (0 + 1))]) rfl rfl rfl rfl ?_
        refine pw_goto E (pc' := 37) rfl (by decide) ?_
        refine pw_ld E (pc' := 38) (st' := [pw_i (0 + 1)]) rfl (fun _ => rfl) ?_
        refine pw_ld E (pc' := 39) (st' := [pw_i 4, pw_i (0 + 1)]) rfl (fun _ => rfl) ?_
        refine pw_if2 E (pc' := 58) rfl (by decide) (by decide) (by decide) (by decide) (by decide) ?_ ?_
        · intro hc15
          change (4 : Int) ≤ 0 + 1 at hc15
          exfalso; omega
        · intro hc16
          change ¬ ((4 : Int) ≤ 0 + 1) at hc16
          refine pw_ld E (pc' := 43) (st' := [.ref 141]) rfl (fun _ => rfl) ?_
          refine pw_getR (b := 161) h14I E (c := 125) (k := 31) (pc' := 46) rfl rfl rfl rfl rfl rfl rfl ?_
          refine pw_bip E (pc' := 48) rfl rfl (by decide) ?_
          refine pw_ld E (pc' := 49) (st' := [pw_i (0 + 1), pw_i 16, .ref 161]) rfl (fun _ => rfl) ?_
          refine pw_add E (pc' := 50) rfl rfl ?_
          refine pw_ld E (pc' := 51) (st' := [pw_i ((-1)), pw_i (16 + (0 + 1)), .ref 161]) rfl (fun _ => rfl) ?_
          refine pw_ast0 h14I E (c := 145) (pc' := 52) rfl rfl rfl (by decide) rfl (by decide) (by omega) (by omega) rfl (by omega) (by omega) (by omega) (by omega) rfl ?_
          intro h17I h17E
          generalize h17w : pw_w h14 145 (((16 + (0 + 1)) : Int).toNat) (pw_i ((-1))) = h17 at h17I h17E ⊢
          have h17F := h14F.tr (h17E.wk (W' := [125, 127, 128, 129, 145, 146, 147, 1002]) (by first | rfl | simp))
          refine pw_inc E (pc' := 55) (ls' := [some (.ref 141), some (pw_i l), some (pw_i ((0 + 1) + 1))]) rfl rfl rfl rfl ?_
          refine pw_goto E (pc' := 37) rfl (by decide) ?_
          refine pw_ld E (pc' := 38) (st' := [pw_i ((0 + 1) + 1)]) rfl (fun _ => rfl) ?_
          refine pw_ld E (pc' := 39) (st' := [pw_i 4, pw_i ((0 + 1) + 1)]) rfl (fun _ => rfl) ?_
          refine pw_if2 E (pc' := 58) rfl (by decide) (by decide) (by decide) (by decide) (by decide) ?_ ?_
          · intro hc18
            change (4 : Int) ≤ (0 + 1) + 1 at hc18
            exfalso; omega
          · intro hc19
            change ¬ ((4 : Int) ≤ (0 + 1) + 1) at hc19
            refine pw_ld E (pc' := 43) (st' := [.ref 141]) rfl (fun _ => rfl) ?_
            refine pw_getR (b := 161) h17I E (c := 125) (k := 31) (pc' := 46) rfl rfl rfl rfl rfl rfl rfl ?_
            refine pw_bip E (pc' := 48) rfl rfl (by decide) ?_
            refine pw_ld E (pc' := 49) (st' := [pw_i ((0 + 1) + 1), pw_i 16, .ref 161]) rfl (fun _ => rfl) ?_
            refine pw_add E (pc' := 50) rfl rfl ?_
            refine pw_ld E (pc' := 51) (st' := [pw_i ((-1)), pw_i (16 + ((0 + 1) + 1)), .ref 161]) rfl (fun _ => rfl) ?_
            refine pw_ast0 h17I E (c := 145) (pc' := 52) rfl rfl rfl (by decide) rfl (by decide) (by omega) (by omega) rfl (by omega) (by omega) (by omega) (by omega) rfl ?_
            intro h20I h20E
            generalize h20w : pw_w h17 145 (((16 + ((0 + 1) + 1)) : Int).toNat) (pw_i ((-1))) = h20 at h20I h20E ⊢
            have h20F := h17F.tr (h20E.wk (W' := [125, 127, 128, 129, 145, 146, 147, 1002]) (by first | rfl | simp))
            refine pw_inc E (pc' := 55) (ls' := [some (.ref 141), some (pw_i l), some (pw_i (((0 + 1) + 1) + 1))]) rfl rfl rfl rfl ?_
            refine pw_goto E (pc' := 37) rfl (by decide) ?_
            refine pw_ld E (pc' := 38) (st' := [pw_i (((0 + 1) + 1) + 1)]) rfl (fun _ => rfl) ?_
            refine pw_ld E (pc' := 39) (st' := [pw_i 4, pw_i (((0 + 1) + 1) + 1)]) rfl (fun _ => rfl) ?_
            refine pw_if2 E (pc' := 58) rfl (by decide) (by decide) (by decide) (by decide) (by decide) ?_ ?_
            · intro hc21
              change (4 : Int) ≤ ((0 + 1) + 1) + 1 at hc21
              exfalso; omega
            · intro hc22
              change ¬ ((4 : Int) ≤ ((0 + 1) + 1) + 1) at hc22
              refine pw_ld E (pc' := 43) (st' := [.ref 141]) rfl (fun _ => rfl) ?_
              refine pw_getR (b := 161) h20I E (c := 125) (k := 31) (pc' := 46) rfl rfl rfl rfl rfl rfl rfl ?_
              refine pw_bip E (pc' := 48) rfl rfl (by decide) ?_
              refine pw_ld E (pc' := 49) (st' := [pw_i (((0 + 1) + 1) + 1), pw_i 16, .ref 161]) rfl (fun _ => rfl) ?_
              refine pw_add E (pc' := 50) rfl rfl ?_
              refine pw_ld E (pc' := 51) (st' := [pw_i ((-1)), pw_i (16 + (((0 + 1) + 1) + 1)), .ref 161]) rfl (fun _ => rfl) ?_
              refine pw_ast0 h20I E (c := 145) (pc' := 52) rfl rfl rfl (by decide) rfl (by decide) (by omega) (by omega) rfl (by omega) (by omega) (by omega) (by omega) rfl ?_
              intro h23I h23E
              generalize h23w : pw_w h20 145 (((16 + (((0 + 1) + 1) + 1)) : Int).toNat) (pw_i ((-1))) = h23 at h23I h23E ⊢
              have h23F := h20F.tr (h23E.wk (W' := [125, 127, 128, 129, 145, 146, 147, 1002]) (by first | rfl | simp))
              refine pw_inc E (pc' := 55) (ls' := [some (.ref 141), some (pw_i l), some (pw_i ((((0 + 1) + 1) + 1) + 1))]) rfl rfl rfl rfl ?_
              refine pw_goto E (pc' := 37) rfl (by decide) ?_
              refine pw_ld E (pc' := 38) (st' := [pw_i ((((0 + 1) + 1) + 1) + 1)]) rfl (fun _ => rfl) ?_
              refine pw_ld E (pc' := 39) (st' := [pw_i 4, pw_i ((((0 + 1) + 1) + 1) + 1)]) rfl (fun _ => rfl) ?_
              refine pw_if2 E (pc' := 58) rfl (by decide) (by decide) (by decide) (by decide) (by decide) ?_ ?_
              · intro hc24
                change (4 : Int) ≤ (((0 + 1) + 1) + 1) + 1 at hc24
                have b7 : pw_g h23 125 7 = pw_g h8 125 7 := by rw [← h23w, pw_g_ne (by omega), ← h20w, pw_g_ne (by omega), ← h17w, pw_g_ne (by omega), ← h14w, pw_g_ne (by omega), ← h11w, pw_g_ne (by omega), ← h10w, pw_g_ne (by omega)]
                have b8 : pw_g h23 125 8 = pw_g h8 125 8 := by rw [← h23w, pw_g_ne (by omega), ← h20w, pw_g_ne (by omega), ← h17w, pw_g_ne (by omega), ← h14w, pw_g_ne (by omega), ← h11w, pw_g_ne (by omega), ← h10w, pw_g_ne (by omega)]
                have b9 : pw_g h23 125 32 = pw_g h10 125 32 := by rw [← h23w, pw_g_ne (by omega), ← h20w, pw_g_ne (by omega), ← h17w, pw_g_ne (by omega), ← h14w, pw_g_ne (by omega), ← h11w, pw_g_ne (by omega)]
                have bc : pw_g h10 125 32 = 0 := by rw [← h10w]; exact pw_g_eq (c := 125) (k := 32) h8I rfl rfl (by omega) (by omega)
                have hl25 : ∀ j : Nat, pw_g h23 127 j = pw_g h8 127 j := fun j => ((((((by rw [← h23w]; exact pw_g_ne (by omega) : pw_g h23 127 j = pw_g h20 127 j)).trans (by rw [← h20w]; exact pw_g_ne (by omega) : pw_g h20 127 j = pw_g h17 127 j)).trans (by rw [← h17w]; exact pw_g_ne (by omega) : pw_g h17 127 j = pw_g h14 127 j)).trans (by rw [← h14w]; exact pw_g_ne (by omega) : pw_g h14 127 j = pw_g h11 127 j)).trans (by rw [← h11w]; exact pw_g_ne (by omega) : pw_g h11 127 j = pw_g h10 127 j)).trans (by rw [← h10w]; exact pw_g_ne (by omega) : pw_g h10 127 j = pw_g h8 127 j)
                have bA : pw_A n h23 := ⟨hA0.1, by rw [hl25]; exact hA0.2.1, by omega, by omega, by omega, by omega⟩
                have bl0 : pw_g h23 145 16 = -1 := by rw [← h23w, pw_g_ne (by omega), ← h20w, pw_g_ne (by omega), ← h17w, pw_g_ne (by omega), ← h14w]; exact pw_g_eqA h11I rfl (by decide) (by decide) (by decide)
                have bl1 : pw_g h23 145 17 = -1 := by rw [← h23w, pw_g_ne (by omega), ← h20w, pw_g_ne (by omega), ← h17w]; exact pw_g_eqA h14I rfl (by decide) (by decide) (by decide)
                have bl2 : pw_g h23 145 18 = -1 := by rw [← h23w, pw_g_ne (by omega), ← h20w]; exact pw_g_eqA h17I rfl (by decide) (by decide) (by decide)
                have bl3 : pw_g h23 145 19 = -1 := by rw [← h23w]; exact pw_g_eqA h20I rfl (by decide) (by decide) (by decide)
                have bL : pw_Ls h23 := fun k hk => Or.inl (by rcases (by omega : k = 0 ∨ k = 1 ∨ k = 2 ∨ k = 3) with rfl | rfl | rfl | rfl; exact (show pw_g h23 145 16 < 0 by omega); exact (show pw_g h23 145 17 < 0 by omega); exact (show pw_g h23 145 18 < 0 by omega); exact (show pw_g h23 145 19 < 0 by omega))
                have b5 : ∀ j : Nat, j < 16 → pw_g h23 145 j = pw_g h11 145 j := fun j hj => by rw [← h23w, pw_g_ne (fun q => by have := q.2; omega), ← h20w, pw_g_ne (fun q => by have := q.2; omega), ← h17w, pw_g_ne (fun q => by have := q.2; omega), ← h14w, pw_g_ne (fun q => by have := q.2; omega)]
                have hl26 : ∀ j : Nat, pw_g h11 145 j = pw_g h 145 j := fun j => ((((by rw [← h11w]; exact pw_g_ne (by omega) : pw_g h11 145 j = pw_g h10 145 j)).trans (by rw [← h10w]; exact pw_g_ne (by omega) : pw_g h10 145 j = pw_g h8 145 j)).trans (pw_Eg (c := 145) h1I h8E rfl rfl j : pw_g h8 145 j = pw_g h1 145 j)).trans (by rw [← h1w]; exact pw_g_ne (by omega) : pw_g h1 145 j = pw_g h 145 j)
                have hl27 : ∀ j : Nat, pw_g h23 146 j = pw_g h 146 j := fun j => ((((((((by rw [← h23w]; exact pw_g_ne (by omega) : pw_g h23 146 j = pw_g h20 146 j)).trans (by rw [← h20w]; exact pw_g_ne (by omega) : pw_g h20 146 j = pw_g h17 146 j)).trans (by rw [← h17w]; exact pw_g_ne (by omega) : pw_g h17 146 j = pw_g h14 146 j)).trans (by rw [← h14w]; exact pw_g_ne (by omega) : pw_g h14 146 j = pw_g h11 146 j)).trans (by rw [← h11w]; exact pw_g_ne (by omega) : pw_g h11 146 j = pw_g h10 146 j)).trans (by rw [← h10w]; exact pw_g_ne (by omega) : pw_g h10 146 j = pw_g h8 146 j)).trans (pw_Eg (c := 146) h1I h8E rfl rfl j : pw_g h8 146 j = pw_g h1 146 j)).trans (by rw [← h1w]; exact pw_g_ne (by omega) : pw_g h1 146 j = pw_g h 146 j)
                have hl28 : ∀ j : Nat, pw_g h23 147 j = pw_g h 147 j := fun j => ((((((((by rw [← h23w]; exact pw_g_ne (by omega) : pw_g h23 147 j = pw_g h20 147 j)).trans (by rw [← h20w]; exact pw_g_ne (by omega) : pw_g h20 147 j = pw_g h17 147 j)).trans (by rw [← h17w]; exact pw_g_ne (by omega) : pw_g h17 147 j = pw_g h14 147 j)).trans (by rw [← h14w]; exact pw_g_ne (by omega) : pw_g h14 147 j = pw_g h11 147 j)).trans (by rw [← h11w]; exact pw_g_ne (by omega) : pw_g h11 147 j = pw_g h10 147 j)).trans (by rw [← h10w]; exact pw_g_ne (by omega) : pw_g h10 147 j = pw_g h8 147 j)).trans (pw_Eg (c := 147) h1I h8E rfl rfl j : pw_g h8 147 j = pw_g h1 147 j)).trans (by rw [← h1w]; exact pw_g_ne (by omega) : pw_g h1 147 j = pw_g h 147 j)
                have hl29 : ∀ j : Nat, pw_g h23 157 j = pw_g h 157 j := fun j => ((((((((by rw [← h23w]; exact pw_g_ne (by omega) : pw_g h23 157 j = pw_g h20 157 j)).trans (by rw [← h20w]; exact pw_g_ne (by omega) : pw_g h20 157 j = pw_g h17 157 j)).trans (by rw [← h17w]; exact pw_g_ne (by omega) : pw_g h17 157 j = pw_g h14 157 j)).trans (by rw [← h14w]; exact pw_g_ne (by omega) : pw_g h14 157 j = pw_g h11 157 j)).trans (by rw [← h11w]; exact pw_g_ne (by omega) : pw_g h11 157 j = pw_g h10 157 j)).trans (by rw [← h10w]; exact pw_g_ne (by omega) : pw_g h10 157 j = pw_g h8 157 j)).trans (pw_Eg (c := 157) h1I h8E rfl rfl j : pw_g h8 157 j = pw_g h1 157 j)).trans (by rw [← h1w]; exact pw_g_ne (by omega) : pw_g h1 157 j = pw_g h 157 j)
                have bO : pw_O h h23 := ⟨fun j hj => (b5 j hj).trans (hl26 j), fun j _ => ⟨hl27 j, hl28 j⟩, hl29⟩
                have bE : pw_E [125, 145] h8 h23 := ((((((h10E.wk (W' := [125, 145]) (by first | rfl | simp)).tr (h11E.wk (W' := [125, 145]) (by first | rfl | simp))).tr (h14E.wk (W' := [125, 145]) (by first | rfl | simp))).tr (h17E.wk (W' := [125, 145]) (by first | rfl | simp))).tr (h20E.wk (W' := [125, 145]) (by first | rfl | simp))).tr (h23E.wk (W' := [125, 145]) (by first | rfl | simp)))
                have b45 : pw_g h23 125 45 = pw_g h11 125 45 := by rw [← h23w, pw_g_ne (by omega), ← h20w, pw_g_ne (by omega), ← h17w, pw_g_ne (by omega), ← h14w, pw_g_ne (by omega)]
                have b45z : pw_g h11 125 45 = 0 := by rw [← h11w]; exact pw_g_eq (c := 125) (k := 45) h10I rfl rfl (by omega) (by omega)
                have bT : pt_TK K V P 0 h23 := by rw [hK, hV, hP]; exact pt_TK.mk h8I bE hWc rfl (b45.trans b45z)
                have b2 : pw_g h23 125 2 = 0 := (pt_e2 bE rfl).trans ht2
                have bR : pt_RS 0 K V P n R h23 := by rw [hR]; exact pt_RS.z (by omega) (by omega) bl0 bl1 bl2 bl3
                have L58 : ∀ (n58 : Nat)  (gh58 : pm_H), pw_I gh58 → pw_E [125, 127, 128, 129, 145, 146, 147, 1002] h gh58 → pw_A n gh58 → pw_g gh58 125 32 ≤ pw_g gh58 125 7 → (pw_g gh58 125 8 = 0 → pw_Ls gh58) → pw_O h gh58 → pt_TK K V P 0 gh58 → pt_RS 0 K V P n R gh58 → pw_g gh58 125 2 = 0 → ((n : Int) - pw_g gh58 125 7 + 1 - min (pw_g gh58 125 8) 1).toNat = n58 → pw X d gh58 237 58 [some (.ref 141), some (pw_i l), some (pw_i ((((0 + 1) + 1) + 1) + 1))] [] (fun h' v => pw_I h' ∧ pw_E [125, 127, 128, 129, 145, 146, 147, 1002] h h' ∧ (pw_K h') ∧ (∃ a : Int, v = .inl (some (pw_i a)) ∧ (-2147483648) ≤ a ∧ a ≤ 2147483647 ∧ (pw_g h' 125 2 = 0 ∧ (¬ (0 ≤ l ∧ l ≤ 3) → a = -1 ∧ pw_O h h') ∧ (0 ≤ l → l ≤ 3 → ∃ L : List pt_tok, pt_sg (pw_g h 126) (pw_g h 125 2).toNat 0 L (pw_g h 125 2).toNat ∧ a = (pt_TX 0 L (pw_g h 125 2).toNat).1 ∧ (a ≠ 0 → pw_O h h') ∧ (a = 0 → pt_MS h' l (pt_TX 0 L (pw_g h 125 2).toNat).2.1 (pt_TX 0 L (pw_g h 125 2).toNat).2.2.1 ∧ pt_LO h h' l))))) := by
                  intro n58
                  induction n58 using Nat.strongRecOn with
                  | ind n58 ih58 =>
                    intro  gh58 I58 E58 hx58_0 hx58_1 hx58_2 hx58_3 hx58_4 hx58_5 hx58_6 hm58
                    refine pw_ld E (pc' := 59) (st' := [.ref 141]) rfl (fun _ => rfl) ?_
                    refine pw_getI2 I58 E (c := 125) (k := 8) (pc' := 62) rfl rfl rfl rfl rfl rfl (fun hf30a hf30b => ?_)
                    refine pw_if E (pc' := 84) rfl (by decide) (by omega) (by omega) ?_ ?_
                    · intro hc31
                      change pw_g gh58 125 8 ≠ (0 : Int) at hc31
                      have hA58 : pw_g gh58 125 7 ≤ n ∧ 0 ≤ pw_g gh58 125 8 ∧ 0 ≤ pw_g gh58 125 7 ∧ 0 ≤ pw_g gh58 125 32 := hx58_0.2.2
                      have hn1 : n ≤ 1000 := hx58_0.1
                      refine pw_ld E (pc' := 85) (st' := [.ref 141]) rfl (fun _ => rfl) ?_
                      refine pw_getI2 I58 E (c := 125) (k := 8) (pc' := 88) rfl rfl rfl rfl rfl rfl (fun hf32a hf32b => ?_)
                      refine pw_if E (pc' := 96) rfl (by decide) (by omega) (by omega) ?_ ?_
                      · intro hc33
                        change pw_g gh58 125 8 ≤ (0 : Int) at hc33
                        refine pw_ld E (pc' := 97) (st' := [pw_i 0]) rfl (fun _ => rfl) ?_
                        refine pw_istn E (pc' := 98) (ls' := [some (.ref 141), some (pw_i l), some (pw_i 0)]) rfl rfl rfl rfl ?_
                        refine pw_ld E (pc' := 99) (st' := [pw_i 0]) rfl (fun _ => rfl) ?_
                        refine pw_ld E (pc' := 100) (st' := [pw_i 4, pw_i 0]) rfl (fun _ => rfl) ?_
                        refine pw_if2 E (pc' := 128) rfl (by decide) (by decide) (by decide) (by decide) (by decide) ?_ ?_
                        · intro hc34
                          change (4 : Int) ≤ (0 : Int) at hc34
                          exfalso; omega
                        · intro hc35
                          change ¬ ((4 : Int) ≤ (0 : Int)) at hc35
                          refine pw_ld E (pc' := 104) (st' := [.ref 141]) rfl (fun _ => rfl) ?_
                          refine pw_getR (b := 161) I58 E (c := 125) (k := 31) (pc' := 107) rfl rfl rfl rfl rfl rfl rfl ?_
                          refine pw_ld E (pc' := 108) (st' := [pw_i 4, .ref 161]) rfl (fun _ => rfl) ?_
                          refine pw_ld E (pc' := 109) (st' := [pw_i l, pw_i 4, .ref 161]) rfl (fun _ => rfl) ?_
                          refine pw_mul E (pc' := 110) rfl rfl ?_
                          refine pw_ld E (pc' := 111) (st' := [pw_i 0, pw_i (4 * l), .ref 161]) rfl (fun _ => rfl) ?_
                          refine pw_add E (pc' := 112) rfl rfl ?_
                          refine pw_ld E (pc' := 113) (st' := [.ref 141, pw_i ((4 * l) + 0), .ref 161]) rfl (fun _ => rfl) ?_
                          refine pw_getR (b := 161) I58 E (c := 125) (k := 31) (pc' := 116) rfl rfl rfl rfl rfl rfl rfl ?_
                          refine pw_bip E (pc' := 118) rfl rfl (by decide) ?_
                          refine pw_ld E (pc' := 119) (st' := [pw_i 0, pw_i 16, .ref 161, pw_i ((4 * l) + 0), .ref 161]) rfl (fun _ => rfl) ?_
                          refine pw_add E (pc' := 120) rfl rfl ?_
                          refine pw_ald2 I58 E (c := 145) (pc' := 121) rfl rfl rfl (by decide) rfl (by decide) (by omega) (by omega) rfl (fun hf36a hf36b => ?_)
                          refine pw_ast0 I58 E (c := 145) (pc' := 122) rfl rfl rfl (by decide) rfl (by decide) (by omega) (by omega) rfl (by omega) (by omega) (by omega) (by omega) rfl ?_
                          intro h37I h37E
                          generalize h37w : pw_w gh58 145 (((4 * l) + 0).toNat) (pw_i (pw_g gh58 145 (((16 + 0) : Int).toNat))) = h37 at h37I h37E ⊢
                          have h37F := E58.tr (h37E.wk (W' := [125, 127, 128, 129, 145, 146, 147, 1002]) (by first | rfl | simp))
                          refine pw_inc E (pc' := 125) (ls' := [some (.ref 141), some (pw_i l), some (pw_i (0 + 1))]) rfl rfl rfl rfl ?_
                          refine pw_goto E (pc' := 98) rfl (by decide) ?_
                          refine pw_ld E (pc' := 99) (st' := [pw_i (0 + 1)]) rfl (fun _ => rfl) ?_
                          refine pw_ld E (pc' := 100) (st' := [pw_i 4, pw_i (0 + 1)]) rfl (fun _ => rfl) ?_
                          refine pw_if2 E (pc' := 128) rfl (by decide) (by decide) (by decide) (by decide) (by decide) ?_ ?_
                          · intro hc38
                            change (4 : Int) ≤ 0 + 1 at hc38
                            exfalso; omega
                          · intro hc39
                            change ¬ ((4 : Int) ≤ 0 + 1) at hc39
                            refine pw_ld E (pc' := 104) (st' := [.ref 141]) rfl (fun _ => rfl) ?_
                            refine pw_getR (b := 161) h37I E (c := 125) (k := 31) (pc' := 107) rfl rfl rfl rfl rfl rfl rfl ?_
                            refine pw_ld E (pc' := 108) (st' := [pw_i 4, .ref 161]) rfl (fun _ => rfl) ?_
                            refine pw_ld E (pc' := 109) (st' := [pw_i l, pw_i 4, .ref 161]) rfl (fun _ => rfl) ?_
                            refine pw_mul E (pc' := 110) rfl rfl ?_
                            refine pw_ld E (pc' := 111) (st' := [pw_i (0 + 1), pw_i (4 * l), .ref 161]) rfl (fun _ => rfl) ?_
                            refine pw_add E (pc' := 112) rfl rfl ?_
                            refine pw_ld E (pc' := 113) (st' := [.ref 141, pw_i ((4 * l) + (0 + 1)), .ref 161]) rfl (fun _ => rfl) ?_
                            refine pw_getR (b := 161) h37I E (c := 125) (k := 31) (pc' := 116) rfl rfl rfl rfl rfl rfl rfl ?_
                            refine pw_bip E (pc' := 118) rfl rfl (by decide) ?_
                            refine pw_ld E (pc' := 119) (st' := [pw_i (0 + 1), pw_i 16, .ref 161, pw_i ((4 * l) + (0 + 1)), .ref 161]) rfl (fun _ => rfl) ?_
                            refine pw_add E (pc' := 120) rfl rfl ?_
                            refine pw_ald2 h37I E (c := 145) (pc' := 121) rfl rfl rfl (by decide) rfl (by decide) (by omega) (by omega) rfl (fun hf40a hf40b => ?_)
                            refine pw_ast0 h37I E (c := 145) (pc' := 122) rfl rfl rfl (by decide) rfl (by decide) (by omega) (by omega) rfl (by omega) (by omega) (by omega) (by omega) rfl ?_
                            intro h41I h41E
                            generalize h41w : pw_w h37 145 (((4 * l) + (0 + 1)).toNat) (pw_i (pw_g h37 145 (((16 + (0 + 1)) : Int).toNat))) = h41 at h41I h41E ⊢
                            have h41F := h37F.tr (h41E.wk (W' := [125, 127, 128, 129, 145, 146, 147, 1002]) (by first | rfl | simp))
                            refine pw_inc E (pc' := 125) (ls' := [some (.ref 141), some (pw_i l), some (pw_i ((0 + 1) + 1))]) rfl rfl rfl rfl ?_
                            refine pw_goto E (pc' := 98) rfl (by decide) ?_
                            refine pw_ld E (pc' := 99) (st' := [pw_i ((0 + 1) + 1)]) rfl (fun _ => rfl) ?_
                            refine pw_ld E (pc' := 100) (st' := [pw_i 4, pw_i ((0 + 1) + 1)]) rfl (fun _ => rfl) ?_
                            refine pw_if2 E (pc' := 128) rfl (by decide) (by decide) (by decide) (by decide) (by decide) ?_ ?_
                            · intro hc42
                              change (4 : Int) ≤ (0 + 1) + 1 at hc42
                              exfalso; omega
                            · intro hc43
                              change ¬ ((4 : Int) ≤ (0 + 1) + 1) at hc43
                              refine pw_ld E (pc' := 104) (st' := [.ref 141]) rfl (fun _ => rfl) ?_
                              refine pw_getR (b := 161) h41I E (c := 125) (k := 31) (pc' := 107) rfl rfl rfl rfl rfl rfl rfl ?_
                              refine pw_ld E (pc' := 108) (st' := [pw_i 4, .ref 161]) rfl (fun _ => rfl) ?_
                              refine pw_ld E (pc' := 109) (st' := [pw_i l, pw_i 4, .ref 161]) rfl (fun _ => rfl) ?_
                              refine pw_mul E (pc' := 110) rfl rfl ?_
                              refine pw_ld E (pc' := 111) (st' := [pw_i ((0 + 1) + 1), pw_i (4 * l), .ref 161]) rfl (fun _ => rfl) ?_
                              refine pw_add E (pc' := 112) rfl rfl ?_
                              refine pw_ld E (pc' := 113) (st' := [.ref 141, pw_i ((4 * l) + ((0 + 1) + 1)), .ref 161]) rfl (fun _ => rfl) ?_
                              refine pw_getR (b := 161) h41I E (c := 125) (k := 31) (pc' := 116) rfl rfl rfl rfl rfl rfl rfl ?_
                              refine pw_bip E (pc' := 118) rfl rfl (by decide) ?_
                              refine pw_ld E (pc' := 119) (st' := [pw_i ((0 + 1) + 1), pw_i 16, .ref 161, pw_i ((4 * l) + ((0 + 1) + 1)), .ref 161]) rfl (fun _ => rfl) ?_
                              refine pw_add E (pc' := 120) rfl rfl ?_
                              refine pw_ald2 h41I E (c := 145) (pc' := 121) rfl rfl rfl (by decide) rfl (by decide) (by omega) (by omega) rfl (fun hf44a hf44b => ?_)
                              refine pw_ast0 h41I E (c := 145) (pc' := 122) rfl rfl rfl (by decide) rfl (by decide) (by omega) (by omega) rfl (by omega) (by omega) (by omega) (by omega) rfl ?_
                              intro h45I h45E
                              generalize h45w : pw_w h41 145 (((4 * l) + ((0 + 1) + 1)).toNat) (pw_i (pw_g h41 145 (((16 + ((0 + 1) + 1)) : Int).toNat))) = h45 at h45I h45E ⊢
                              have h45F := h41F.tr (h45E.wk (W' := [125, 127, 128, 129, 145, 146, 147, 1002]) (by first | rfl | simp))
                              refine pw_inc E (pc' := 125) (ls' := [some (.ref 141), some (pw_i l), some (pw_i (((0 + 1) + 1) + 1))]) rfl rfl rfl rfl ?_
                              refine pw_goto E (pc' := 98) rfl (by decide) ?_
                              refine pw_ld E (pc' := 99) (st' := [pw_i (((0 + 1) + 1) + 1)]) rfl (fun _ => rfl) ?_
                              refine pw_ld E (pc' := 100) (st' := [pw_i 4, pw_i (((0 + 1) + 1) + 1)]) rfl (fun _ => rfl) ?_
                              refine pw_if2 E (pc' := 128) rfl (by decide) (by decide) (by decide) (by decide) (by decide) ?_ ?_
                              · intro hc46
                                change (4 : Int) ≤ ((0 + 1) + 1) + 1 at hc46
                                exfalso; omega
                              · intro hc47
                                change ¬ ((4 : Int) ≤ ((0 + 1) + 1) + 1) at hc47
                                refine pw_ld E (pc' := 104) (st' := [.ref 141]) rfl (fun _ => rfl) ?_
                                refine pw_getR (b := 161) h45I E (c := 125) (k := 31) (pc' := 107) rfl rfl rfl rfl rfl rfl rfl ?_
                                refine pw_ld E (pc' := 108) (st' := [pw_i 4, .ref 161]) rfl (fun _ => rfl) ?_
                                refine pw_ld E (pc' := 109) (st' := [pw_i l, pw_i 4, .ref 161]) rfl (fun _ => rfl) ?_
                                refine pw_mul E (pc' := 110) rfl rfl ?_
                                refine pw_ld E (pc' := 111) (st' := [pw_i (((0 + 1) + 1) + 1), pw_i (4 * l), .ref 161]) rfl (fun _ => rfl) ?_
                                refine pw_add E (pc' := 112) rfl rfl ?_
                                refine pw_ld E (pc' := 113) (st' := [.ref 141, pw_i ((4 * l) + (((0 + 1) + 1) + 1)), .ref 161]) rfl (fun _ => rfl) ?_
                                refine pw_getR (b := 161) h45I E (c := 125) (k := 31) (pc' := 116) rfl rfl rfl rfl rfl rfl rfl ?_
                                refine pw_bip E (pc' := 118) rfl rfl (by decide) ?_
                                refine pw_ld E (pc' := 119) (st' := [pw_i (((0 + 1) + 1) + 1), pw_i 16, .ref 161, pw_i ((4 * l) + (((0 + 1) + 1) + 1)), .ref 161]) rfl (fun _ => rfl) ?_
                                refine pw_add E (pc' := 120) rfl rfl ?_
                                refine pw_ald2 h45I E (c := 145) (pc' := 121) rfl rfl rfl (by decide) rfl (by decide) (by omega) (by omega) rfl (fun hf48a hf48b => ?_)
                                refine pw_ast0 h45I E (c := 145) (pc' := 122) rfl rfl rfl (by decide) rfl (by decide) (by omega) (by omega) rfl (by omega) (by omega) (by omega) (by omega) rfl ?_
                                intro h49I h49E
                                generalize h49w : pw_w h45 145 (((4 * l) + (((0 + 1) + 1) + 1)).toNat) (pw_i (pw_g h45 145 (((16 + (((0 + 1) + 1) + 1)) : Int).toNat))) = h49 at h49I h49E ⊢
                                have h49F := h45F.tr (h49E.wk (W' := [125, 127, 128, 129, 145, 146, 147, 1002]) (by first | rfl | simp))
                                refine pw_inc E (pc' := 125) (ls' := [some (.ref 141), some (pw_i l), some (pw_i ((((0 + 1) + 1) + 1) + 1))]) rfl rfl rfl rfl ?_
                                refine pw_goto E (pc' := 98) rfl (by decide) ?_
                                refine pw_ld E (pc' := 99) (st' := [pw_i ((((0 + 1) + 1) + 1) + 1)]) rfl (fun _ => rfl) ?_
                                refine pw_ld E (pc' := 100) (st' := [pw_i 4, pw_i ((((0 + 1) + 1) + 1) + 1)]) rfl (fun _ => rfl) ?_
                                refine pw_if2 E (pc' := 128) rfl (by decide) (by decide) (by decide) (by decide) (by decide) ?_ ?_
                                · intro hc50
                                  change (4 : Int) ≤ (((0 + 1) + 1) + 1) + 1 at hc50
                                  refine pw_ld E (pc' := 129) (st' := [.ref 141]) rfl (fun _ => rfl) ?_
                                  refine pw_ld E (pc' := 130) (st' := [pw_i l, .ref 141]) rfl (fun _ => rfl) ?_
                                  have he51 : pw_g h49 125 32 = pw_g h45 125 32 := by rw [← h49w]; exact pw_g_ne (by omega)
                                  have he52 : pw_g h45 125 32 = pw_g h41 125 32 := by rw [← h45w]; exact pw_g_ne (by omega)
                                  have he53 : pw_g h41 125 32 = pw_g h37 125 32 := by rw [← h41w]; exact pw_g_ne (by omega)
                                  have he54 : pw_g h37 125 32 = pw_g gh58 125 32 := by rw [← h37w]; exact pw_g_ne (by omega)
                                  obtain ⟨f55l, f55h, -⟩ := pw_obj (c := 125) h49I rfl
                                  refine pw_call (m' := 258) (As := [.ref 141, pw_i l]) (rest := []) (ls'' := [some (.ref 141), some (pw_i l), none]) (Nat.le_trans (by decide) hd) E rfl (fun _ => pw_iV rfl rfl rfl rfl (pw_cellI f55h rfl)) (rfl : pm_ent 258 = some (2, 3, 12, 4, pmc_258)) rfl rfl (cm_258 (pw_dp hd (by decide)) h49I (l) (by omega) (by omega) (by omega) (by omega)) ?_
                                  rintro h56 v57 ⟨h56I, h56E, hqkeep, rfl⟩
                                  refine ⟨_, rfl, ?_⟩
                                  have h56F := h49F.tr (h56E.wk (W' := [125, 127, 128, 129, 145, 146, 147, 1002]) (by first | rfl | simp))
                                  show pw X d h56 237 133 [some (.ref 141), some (pw_i l), some (pw_i ((((0 + 1) + 1) + 1) + 1))] [] _
                                  refine pw_ld E (pc' := 134) (st' := [pw_i 0]) rfl (fun _ => rfl) ?_
                                  refine pw_iret E rfl ?_
                                  have hcp := pw_cp4 (l := l) (by omega) (by omega) I58 h37I h41I h45I h37w h41w h45w h49w
                                  have hl58 : ∀ j : Nat, pw_g h49 146 j = pw_g gh58 146 j := fun j => ((((by rw [← h49w]; exact pw_g_ne (by omega) : pw_g h49 146 j = pw_g h45 146 j)).trans (by rw [← h45w]; exact pw_g_ne (by omega) : pw_g h45 146 j = pw_g h41 146 j)).trans (by rw [← h41w]; exact pw_g_ne (by omega) : pw_g h41 146 j = pw_g h37 146 j)).trans (by rw [← h37w]; exact pw_g_ne (by omega) : pw_g h37 146 j = pw_g gh58 146 j)
                                  have hl59 : ∀ j : Nat, pw_g h49 147 j = pw_g gh58 147 j := fun j => ((((by rw [← h49w]; exact pw_g_ne (by omega) : pw_g h49 147 j = pw_g h45 147 j)).trans (by rw [← h45w]; exact pw_g_ne (by omega) : pw_g h45 147 j = pw_g h41 147 j)).trans (by rw [← h41w]; exact pw_g_ne (by omega) : pw_g h41 147 j = pw_g h37 147 j)).trans (by rw [← h37w]; exact pw_g_ne (by omega) : pw_g h37 147 j = pw_g gh58 147 j)
                                  have hl60 : ∀ j : Nat, pw_g h56 157 j = pw_g gh58 157 j := fun j => (((((pw_Eg (c := 157) h49I h56E rfl rfl j : pw_g h56 157 j = pw_g h49 157 j)).trans (by rw [← h49w]; exact pw_g_ne (by omega) : pw_g h49 157 j = pw_g h45 157 j)).trans (by rw [← h45w]; exact pw_g_ne (by omega) : pw_g h45 157 j = pw_g h41 157 j)).trans (by rw [← h41w]; exact pw_g_ne (by omega) : pw_g h41 157 j = pw_g h37 157 j)).trans (by rw [← h37w]; exact pw_g_ne (by omega) : pw_g h37 157 j = pw_g gh58 157 j)
                                  have hl61 : ∀ j : Nat, pw_g h56 145 j = pw_g h49 145 j := fun j => (pw_Eg (c := 145) h49I h56E rfl rfl j : pw_g h56 145 j = pw_g h49 145 j)
                                  have b9 : pw_g h49 125 32 = pw_g gh58 125 32 := by rw [← h49w, pw_g_ne (by omega), ← h45w, pw_g_ne (by omega), ← h41w, pw_g_ne (by omega), ← h37w, pw_g_ne (by omega)]
                                  have hkc : pw_KC gh58 h56 l (pw_g gh58 125 32) := by rw [← b9]; exact hqkeep.cg hl58 hl59
                                  have cE : pw_E [145, 146, 147] gh58 h56 := (((((h37E.wk (W' := [145, 146, 147]) (by first | rfl | simp)).tr (h41E.wk (W' := [145, 146, 147]) (by first | rfl | simp))).tr (h45E.wk (W' := [145, 146, 147]) (by first | rfl | simp))).tr (h49E.wk (W' := [145, 146, 147]) (by first | rfl | simp))).tr (h56E.wk (W' := [145, 146, 147]) (by first | rfl | simp)))
                                  have hk0 : K (pw_g gh58 125 7).toNat = 0 := by rw [← hx58_4.1]; first | assumption | omega
                                  obtain ⟨-, th, C, N, hTI, hML⟩ := hx58_5.resolve_right (fun q => by have := q.1; omega)
                                  have hRe := hTI.en (by omega) hk0
                                  rw [hRX] at hRe
                                  have hMS := hML.law (l := l) (by omega) (by omega) (by omega) (fun k hk => (hl61 _).trans (hcp.1 k hk)) hkc
                                  have hLO : pt_LO h h56 l := ⟨fun j hj q => ((hl61 _).trans (hcp.2 j q)).trans (hx58_3.1 j hj), fun j q1 q2 => ⟨(hkc.2 j q2).1.trans (hx58_3.2.1 j q1).1, (hkc.2 j q2).2.trans (hx58_3.2.1 j q1).2⟩, fun j => (hl60 j).trans (hx58_3.2.2 j)⟩
                                  have hrel : pw_g h56 125 2 = 0 ∧ (¬ (0 ≤ l ∧ l ≤ 3) → (0 : Int) = -1 ∧ pw_O h h56) ∧ (0 ≤ l → l ≤ 3 → ∃ L : List pt_tok, pt_sg (pw_g h 126) (pw_g h 125 2).toNat 0 L (pw_g h 125 2).toNat ∧ (0 : Int) = (pt_TX 0 L (pw_g h 125 2).toNat).1 ∧ ((0 : Int) ≠ 0 → pw_O h h56) ∧ ((0 : Int) = 0 → pt_MS h56 l (pt_TX 0 L (pw_g h 125 2).toNat).2.1 (pt_TX 0 L (pw_g h 125 2).toNat).2.2.1 ∧ pt_LO h h56 l)) := ⟨(pt_e2 cE rfl).trans hx58_6, fun q => absurd ⟨by omega, by omega⟩ q, fun _ _ => ⟨L, hsg, by rw [hRe], fun q => absurd rfl q, fun _ => ⟨by rw [hRe]; exact hMS, hLO⟩⟩⟩
                                  exact ⟨h56I, h56F, (hp0.of hx58_3.1 hx58_3.2.1 hx58_3.2.2).law (by omega) (by omega) (hx58_2 (by omega)) (by omega) (fun k hk => (hl61 _).trans (hcp.1 k hk)) (fun j _ hj => (hl61 _).trans (hcp.2 j hj)) hkc hl60, ⟨_, rfl, by omega, by omega, hrel⟩⟩
                                · intro hc62
                                  change ¬ ((4 : Int) ≤ (((0 + 1) + 1) + 1) + 1) at hc62
                                  exfalso; omega
                      · intro hc63
                        change ¬ (pw_g gh58 125 8 ≤ (0 : Int)) at hc63
                        refine pw_ld E (pc' := 92) (st' := [.ref 141]) rfl (fun _ => rfl) ?_
                        refine pw_getI2 I58 E (c := 125) (k := 8) (pc' := 95) rfl rfl rfl rfl rfl rfl (fun hf64a hf64b => ?_)
                        refine pw_iret E rfl ?_
                        have hRf := (hx58_5.resolve_left (fun q => by have := q.1; omega)).2
                        have hrel : pw_g gh58 125 2 = 0 ∧ (¬ (0 ≤ l ∧ l ≤ 3) → pw_g gh58 125 8 = -1 ∧ pw_O h gh58) ∧ (0 ≤ l → l ≤ 3 → ∃ L : List pt_tok, pt_sg (pw_g h 126) (pw_g h 125 2).toNat 0 L (pw_g h 125 2).toNat ∧ pw_g gh58 125 8 = (pt_TX 0 L (pw_g h 125 2).toNat).1 ∧ (pw_g gh58 125 8 ≠ 0 → pw_O h gh58) ∧ (pw_g gh58 125 8 = 0 → pt_MS gh58 l (pt_TX 0 L (pw_g h 125 2).toNat).2.1 (pt_TX 0 L (pw_g h 125 2).toNat).2.2.1 ∧ pt_LO h gh58 l)) := ⟨hx58_6, fun q => absurd ⟨by omega, by omega⟩ q, fun _ _ => ⟨L, hsg, by rw [← hRX]; exact hRf.symm, fun _ => hx58_3, fun q => absurd q (by omega)⟩⟩
                        exact ⟨I58, E58, hp0.of hx58_3.1 hx58_3.2.1 hx58_3.2.2, ⟨_, rfl, by omega, by omega, hrel⟩⟩
                    · intro hc65
                      change ¬ (pw_g gh58 125 8 ≠ (0 : Int)) at hc65
                      refine pw_ld E (pc' := 66) (st' := [.ref 141]) rfl (fun _ => rfl) ?_
                      refine pw_getR (b := 143) I58 E (c := 125) (k := 4) (pc' := 69) rfl rfl rfl rfl rfl rfl rfl ?_
                      refine pw_ld E (pc' := 70) (st' := [.ref 141, .ref 143]) rfl (fun _ => rfl) ?_
                      refine pw_getI2 I58 E (c := 125) (k := 7) (pc' := 73) rfl rfl rfl rfl rfl rfl (fun hf66a hf66b => ?_)
                      refine pw_ald2 I58 E (c := 127) (pc' := 74) rfl rfl rfl (by decide) rfl (by decide) (by omega) (by omega) rfl (fun hf67a hf67b => ?_)
                      refine pw_if E (pc' := 84) rfl (by decide) (by omega) (by omega) ?_ ?_
                      · intro hc68
                        change pw_g gh58 127 ((pw_g gh58 125 7).toNat) = (0 : Int) at hc68
                        have hA58 : pw_g gh58 125 7 ≤ n ∧ 0 ≤ pw_g gh58 125 8 ∧ 0 ≤ pw_g gh58 125 7 ∧ 0 ≤ pw_g gh58 125 32 := hx58_0.2.2
                        have hn1 : n ≤ 1000 := hx58_0.1
                        refine pw_ld E (pc' := 85) (st' := [.ref 141]) rfl (fun _ => rfl) ?_
                        refine pw_getI2 I58 E (c := 125) (k := 8) (pc' := 88) rfl rfl rfl rfl rfl rfl (fun hf69a hf69b => ?_)
                        refine pw_if E (pc' := 96) rfl (by decide) (by omega) (by omega) ?_ ?_
                        · intro hc70
                          change pw_g gh58 125 8 ≤ (0 : Int) at hc70
                          refine pw_ld E (pc' := 97) (st' := [pw_i 0]) rfl (fun _ => rfl) ?_
                          refine pw_istn E (pc' := 98) (ls' := [some (.ref 141), some (pw_i l), some (pw_i 0)]) rfl rfl rfl rfl ?_
                          refine pw_ld E (pc' := 99) (st' := [pw_i 0]) rfl (fun _ => rfl) ?_
                          refine pw_ld E (pc' := 100) (st' := [pw_i 4, pw_i 0]) rfl (fun _ => rfl) ?_
                          refine pw_if2 E (pc' := 128) rfl (by decide) (by decide) (by decide) (by decide) (by decide) ?_ ?_
                          · intro hc71
                            change (4 : Int) ≤ (0 : Int) at hc71
                            exfalso; omega
                          · intro hc72
                            change ¬ ((4 : Int) ≤ (0 : Int)) at hc72
                            refine pw_ld E (pc' := 104) (st' := [.ref 141]) rfl (fun _ => rfl) ?_
                            refine pw_getR (b := 161) I58 E (c := 125) (k := 31) (pc' := 107) rfl rfl rfl rfl rfl rfl rfl ?_
                            refine pw_ld E (pc' := 108) (st' := [pw_i 4, .ref 161]) rfl (fun _ => rfl) ?_
                            refine pw_ld E (pc' := 109) (st' := [pw_i l, pw_i 4, .ref 161]) rfl (fun _ => rfl) ?_
                            refine pw_mul E (pc' := 110) rfl rfl ?_
                            refine pw_ld E (pc' := 111) (st' := [pw_i 0, pw_i (4 * l), .ref 161]) rfl (fun _ => rfl) ?_
                            refine pw_add E (pc' := 112) rfl rfl ?_
                            refine pw_ld E (pc' := 113) (st' := [.ref 141, pw_i ((4 * l) + 0), .ref 161]) rfl (fun _ => rfl) ?_
                            refine pw_getR (b := 161) I58 E (c := 125) (k := 31) (pc' := 116) rfl rfl rfl rfl rfl rfl rfl ?_
                            refine pw_bip E (pc' := 118) rfl rfl (by decide) ?_
                            refine pw_ld E (pc' := 119) (st' := [pw_i 0, pw_i 16, .ref 161, pw_i ((4 * l) + 0), .ref 161]) rfl (fun _ => rfl) ?_
                            refine pw_add E (pc' := 120) rfl rfl ?_
                            refine pw_ald2 I58 E (c := 145) (pc' := 121) rfl rfl rfl (by decide) rfl (by decide) (by omega) (by omega) rfl (fun hf73a hf73b => ?_)
                            refine pw_ast0 I58 E (c := 145) (pc' := 122) rfl rfl rfl (by decide) rfl (by decide) (by omega) (by omega) rfl (by omega) (by omega) (by omega) (by omega) rfl ?_
                            intro h74I h74E
                            generalize h74w : pw_w gh58 145 (((4 * l) + 0).toNat) (pw_i (pw_g gh58 145 (((16 + 0) : Int).toNat))) = h74 at h74I h74E ⊢
                            have h74F := E58.tr (h74E.wk (W' := [125, 127, 128, 129, 145, 146, 147, 1002]) (by first | rfl | simp))
                            refine pw_inc E (pc' := 125) (ls' := [some (.ref 141), some (pw_i l), some (pw_i (0 + 1))]) rfl rfl rfl rfl ?_
                            refine pw_goto E (pc' := 98) rfl (by decide) ?_
                            refine pw_ld E (pc' := 99) (st' := [pw_i (0 + 1)]) rfl (fun _ => rfl) ?_
                            refine pw_ld E (pc' := 100) (st' := [pw_i 4, pw_i (0 + 1)]) rfl (fun _ => rfl) ?_
                            refine pw_if2 E (pc' := 128) rfl (by decide) (by decide) (by decide) (by decide) (by decide) ?_ ?_
                            · intro hc75
                              change (4 : Int) ≤ 0 + 1 at hc75
                              exfalso; omega
                            · intro hc76
                              change ¬ ((4 : Int) ≤ 0 + 1) at hc76
                              refine pw_ld E (pc' := 104) (st' := [.ref 141]) rfl (fun _ => rfl) ?_
                              refine pw_getR (b := 161) h74I E (c := 125) (k := 31) (pc' := 107) rfl rfl rfl rfl rfl rfl rfl ?_
                              refine pw_ld E (pc' := 108) (st' := [pw_i 4, .ref 161]) rfl (fun _ => rfl) ?_
                              refine pw_ld E (pc' := 109) (st' := [pw_i l, pw_i 4, .ref 161]) rfl (fun _ => rfl) ?_
                              refine pw_mul E (pc' := 110) rfl rfl ?_
                              refine pw_ld E (pc' := 111) (st' := [pw_i (0 + 1), pw_i (4 * l), .ref 161]) rfl (fun _ => rfl) ?_
                              refine pw_add E (pc' := 112) rfl rfl ?_
                              refine pw_ld E (pc' := 113) (st' := [.ref 141, pw_i ((4 * l) + (0 + 1)), .ref 161]) rfl (fun _ => rfl) ?_
                              refine pw_getR (b := 161) h74I E (c := 125) (k := 31) (pc' := 116) rfl rfl rfl rfl rfl rfl rfl ?_
                              refine pw_bip E (pc' := 118) rfl rfl (by decide) ?_
                              refine pw_ld E (pc' := 119) (st' := [pw_i (0 + 1), pw_i 16, .ref 161, pw_i ((4 * l) + (0 + 1)), .ref 161]) rfl (fun _ => rfl) ?_
                              refine pw_add E (pc' := 120) rfl rfl ?_
                              refine pw_ald2 h74I E (c := 145) (pc' := 121) rfl rfl rfl (by decide) rfl (by decide) (by omega) (by omega) rfl (fun hf77a hf77b => ?_)
                              refine pw_ast0 h74I E (c := 145) (pc' := 122) rfl rfl rfl (by decide) rfl (by decide) (by omega) (by omega) rfl (by omega) (by omega) (by omega) (by omega) rfl ?_
                              intro h78I h78E
                              generalize h78w : pw_w h74 145 (((4 * l) + (0 + 1)).toNat) (pw_i (pw_g h74 145 (((16 + (0 + 1)) : Int).toNat))) = h78 at h78I h78E ⊢
                              have h78F := h74F.tr (h78E.wk (W' := [125, 127, 128, 129, 145, 146, 147, 1002]) (by first | rfl | simp))
                              refine pw_inc E (pc' := 125) (ls' := [some (.ref 141), some (pw_i l), some (pw_i ((0 + 1) + 1))]) rfl rfl rfl rfl ?_
                              refine pw_goto E (pc' := 98) rfl (by decide) ?_
                              refine pw_ld E (pc' := 99) (st' := [pw_i ((0 + 1) + 1)]) rfl (fun _ => rfl) ?_
                              refine pw_ld E (pc' := 100) (st' := [pw_i 4, pw_i ((0 + 1) + 1)]) rfl (fun _ => rfl) ?_
                              refine pw_if2 E (pc' := 128) rfl (by decide) (by decide) (by decide) (by decide) (by decide) ?_ ?_
                              · intro hc79
                                change (4 : Int) ≤ (0 + 1) + 1 at hc79
                                exfalso; omega
                              · intro hc80
                                change ¬ ((4 : Int) ≤ (0 + 1) + 1) at hc80
                                refine pw_ld E (pc' := 104) (st' := [.ref 141]) rfl (fun _ => rfl) ?_
                                refine pw_getR (b := 161) h78I E (c := 125) (k := 31) (pc' := 107) rfl rfl rfl rfl rfl rfl rfl ?_
                                refine pw_ld E (pc' := 108) (st' := [pw_i 4, .ref 161]) rfl (fun _ => rfl) ?_
                                refine pw_ld E (pc' := 109) (st' := [pw_i l, pw_i 4, .ref 161]) rfl (fun _ => rfl) ?_
                                refine pw_mul E (pc' := 110) rfl rfl ?_
                                refine pw_ld E (pc' := 111) (st' := [pw_i ((0 + 1) + 1), pw_i (4 * l), .ref 161]) rfl (fun _ => rfl) ?_
                                refine pw_add E (pc' := 112) rfl rfl ?_
                                refine pw_ld E (pc' := 113) (st' := [.ref 141, pw_i ((4 * l) + ((0 + 1) + 1)), .ref 161]) rfl (fun _ => rfl) ?_
                                refine pw_getR (b := 161) h78I E (c := 125) (k := 31) (pc' := 116) rfl rfl rfl rfl rfl rfl rfl ?_
                                refine pw_bip E (pc' := 118) rfl rfl (by decide) ?_
                                refine pw_ld E (pc' := 119) (st' := [pw_i ((0 + 1) + 1), pw_i 16, .ref 161, pw_i ((4 * l) + ((0 + 1) + 1)), .ref 161]) rfl (fun _ => rfl) ?_
                                refine pw_add E (pc' := 120) rfl rfl ?_
                                refine pw_ald2 h78I E (c := 145) (pc' := 121) rfl rfl rfl (by decide) rfl (by decide) (by omega) (by omega) rfl (fun hf81a hf81b => ?_)
                                refine pw_ast0 h78I E (c := 145) (pc' := 122) rfl rfl rfl (by decide) rfl (by decide) (by omega) (by omega) rfl (by omega) (by omega) (by omega) (by omega) rfl ?_
                                intro h82I h82E
                                generalize h82w : pw_w h78 145 (((4 * l) + ((0 + 1) + 1)).toNat) (pw_i (pw_g h78 145 (((16 + ((0 + 1) + 1)) : Int).toNat))) = h82 at h82I h82E ⊢
                                have h82F := h78F.tr (h82E.wk (W' := [125, 127, 128, 129, 145, 146, 147, 1002]) (by first | rfl | simp))
                                refine pw_inc E (pc' := 125) (ls' := [some (.ref 141), some (pw_i l), some (pw_i (((0 + 1) + 1) + 1))]) rfl rfl rfl rfl ?_
                                refine pw_goto E (pc' := 98) rfl (by decide) ?_
                                refine pw_ld E (pc' := 99) (st' := [pw_i (((0 + 1) + 1) + 1)]) rfl (fun _ => rfl) ?_
                                refine pw_ld E (pc' := 100) (st' := [pw_i 4, pw_i (((0 + 1) + 1) + 1)]) rfl (fun _ => rfl) ?_
                                refine pw_if2 E (pc' := 128) rfl (by decide) (by decide) (by decide) (by decide) (by decide) ?_ ?_
                                · intro hc83
                                  change (4 : Int) ≤ ((0 + 1) + 1) + 1 at hc83
                                  exfalso; omega
                                · intro hc84
                                  change ¬ ((4 : Int) ≤ ((0 + 1) + 1) + 1) at hc84
                                  refine pw_ld E (pc' := 104) (st' := [.ref 141]) rfl (fun _ => rfl) ?_
                                  refine pw_getR (b := 161) h82I E (c := 125) (k := 31) (pc' := 107) rfl rfl rfl rfl rfl rfl rfl ?_
                                  refine pw_ld E (pc' := 108) (st' := [pw_i 4, .ref 161]) rfl (fun _ => rfl) ?_
                                  refine pw_ld E (pc' := 109) (st' := [pw_i l, pw_i 4, .ref 161]) rfl (fun _ => rfl) ?_
                                  refine pw_mul E (pc' := 110) rfl rfl ?_
                                  refine pw_ld E (pc' := 111) (st' := [pw_i (((0 + 1) + 1) + 1), pw_i (4 * l), .ref 161]) rfl (fun _ => rfl) ?_
                                  refine pw_add E (pc' := 112) rfl rfl ?_
                                  refine pw_ld E (pc' := 113) (st' := [.ref 141, pw_i ((4 * l) + (((0 + 1) + 1) + 1)), .ref 161]) rfl (fun _ => rfl) ?_
                                  refine pw_getR (b := 161) h82I E (c := 125) (k := 31) (pc' := 116) rfl rfl rfl rfl rfl rfl rfl ?_
                                  refine pw_bip E (pc' := 118) rfl rfl (by decide) ?_
                                  refine pw_ld E (pc' := 119) (st' := [pw_i (((0 + 1) + 1) + 1), pw_i 16, .ref 161, pw_i ((4 * l) + (((0 + 1) + 1) + 1)), .ref 161]) rfl (fun _ => rfl) ?_
                                  refine pw_add E (pc' := 120) rfl rfl ?_
                                  refine pw_ald2 h82I E (c := 145) (pc' := 121) rfl rfl rfl (by decide) rfl (by decide) (by omega) (by omega) rfl (fun hf85a hf85b => ?_)
                                  refine pw_ast0 h82I E (c := 145) (pc' := 122) rfl rfl rfl (by decide) rfl (by decide) (by omega) (by omega) rfl (by omega) (by omega) (by omega) (by omega) rfl ?_
                                  intro h86I h86E
                                  generalize h86w : pw_w h82 145 (((4 * l) + (((0 + 1) + 1) + 1)).toNat) (pw_i (pw_g h82 145 (((16 + (((0 + 1) + 1) + 1)) : Int).toNat))) = h86 at h86I h86E ⊢
                                  have h86F := h82F.tr (h86E.wk (W' := [125, 127, 128, 129, 145, 146, 147, 1002]) (by first | rfl | simp))
                                  refine pw_inc E (pc' := 125) (ls' := [some (.ref 141), some (pw_i l), some (pw_i ((((0 + 1) + 1) + 1) + 1))]) rfl rfl rfl rfl ?_
                                  refine pw_goto E (pc' := 98) rfl (by decide) ?_
                                  refine pw_ld E (pc' := 99) (st' := [pw_i ((((0 + 1) + 1) + 1) + 1)]) rfl (fun _ => rfl) ?_
                                  refine pw_ld E (pc' := 100) (st' := [pw_i 4, pw_i ((((0 + 1) + 1) + 1) + 1)]) rfl (fun _ => rfl) ?_
                                  refine pw_if2 E (pc' := 128) rfl (by decide) (by decide) (by decide) (by decide) (by decide) ?_ ?_
                                  · intro hc87
                                    change (4 : Int) ≤ (((0 + 1) + 1) + 1) + 1 at hc87
                                    refine pw_ld E (pc' := 129) (st' := [.ref 141]) rfl (fun _ => rfl) ?_
                                    refine pw_ld E (pc' := 130) (st' := [pw_i l, .ref 141]) rfl (fun _ => rfl) ?_
                                    have he88 : pw_g h86 125 32 = pw_g h82 125 32 := by rw [← h86w]; exact pw_g_ne (by omega)
                                    have he89 : pw_g h82 125 32 = pw_g h78 125 32 := by rw [← h82w]; exact pw_g_ne (by omega)
                                    have he90 : pw_g h78 125 32 = pw_g h74 125 32 := by rw [← h78w]; exact pw_g_ne (by omega)
                                    have he91 : pw_g h74 125 32 = pw_g gh58 125 32 := by rw [← h74w]; exact pw_g_ne (by omega)
                                    obtain ⟨f92l, f92h, -⟩ := pw_obj (c := 125) h86I rfl
                                    refine pw_call (m' := 258) (As := [.ref 141, pw_i l]) (rest := []) (ls'' := [some (.ref 141), some (pw_i l), none]) (Nat.le_trans (by decide) hd) E rfl (fun _ => pw_iV rfl rfl rfl rfl (pw_cellI f92h rfl)) (rfl : pm_ent 258 = some (2, 3, 12, 4, pmc_258)) rfl rfl (cm_258 (pw_dp hd (by decide)) h86I (l) (by omega) (by omega) (by omega) (by omega)) ?_
                                    rintro h93 v94 ⟨h93I, h93E, hqkeep, rfl⟩
                                    refine ⟨_, rfl, ?_⟩
                                    have h93F := h86F.tr (h93E.wk (W' := [125, 127, 128, 129, 145, 146, 147, 1002]) (by first | rfl | simp))
                                    show pw X d h93 237 133 [some (.ref 141), some (pw_i l), some (pw_i ((((0 + 1) + 1) + 1) + 1))] [] _
                                    refine pw_ld E (pc' := 134) (st' := [pw_i 0]) rfl (fun _ => rfl) ?_
                                    refine pw_iret E rfl ?_
                                    have hcp := pw_cp4 (l := l) (by omega) (by omega) I58 h74I h78I h82I h74w h78w h82w h86w
                                    have hl95 : ∀ j : Nat, pw_g h86 146 j = pw_g gh58 146 j := fun j => ((((by rw [← h86w]; exact pw_g_ne (by omega) : pw_g h86 146 j = pw_g h82 146 j)).trans (by rw [← h82w]; exact pw_g_ne (by omega) : pw_g h82 146 j = pw_g h78 146 j)).trans (by rw [← h78w]; exact pw_g_ne (by omega) : pw_g h78 146 j = pw_g h74 146 j)).trans (by rw [← h74w]; exact pw_g_ne (by omega) : pw_g h74 146 j = pw_g gh58 146 j)
                                    have hl96 : ∀ j : Nat, pw_g h86 147 j = pw_g gh58 147 j := fun j => ((((by rw [← h86w]; exact pw_g_ne (by omega) : pw_g h86 147 j = pw_g h82 147 j)).trans (by rw [← h82w]; exact pw_g_ne (by omega) : pw_g h82 147 j = pw_g h78 147 j)).trans (by rw [← h78w]; exact pw_g_ne (by omega) : pw_g h78 147 j = pw_g h74 147 j)).trans (by rw [← h74w]; exact pw_g_ne (by omega) : pw_g h74 147 j = pw_g gh58 147 j)
                                    have hl97 : ∀ j : Nat, pw_g h93 157 j = pw_g gh58 157 j := fun j => (((((pw_Eg (c := 157) h86I h93E rfl rfl j : pw_g h93 157 j = pw_g h86 157 j)).trans (by rw [← h86w]; exact pw_g_ne (by omega) : pw_g h86 157 j = pw_g h82 157 j)).trans (by rw [← h82w]; exact pw_g_ne (by omega) : pw_g h82 157 j = pw_g h78 157 j)).trans (by rw [← h78w]; exact pw_g_ne (by omega) : pw_g h78 157 j = pw_g h74 157 j)).trans (by rw [← h74w]; exact pw_g_ne (by omega) : pw_g h74 157 j = pw_g gh58 157 j)
                                    have hl98 : ∀ j : Nat, pw_g h93 145 j = pw_g h86 145 j := fun j => (pw_Eg (c := 145) h86I h93E rfl rfl j : pw_g h93 145 j = pw_g h86 145 j)
                                    have b9 : pw_g h86 125 32 = pw_g gh58 125 32 := by rw [← h86w, pw_g_ne (by omega), ← h82w, pw_g_ne (by omega), ← h78w, pw_g_ne (by omega), ← h74w, pw_g_ne (by omega)]
                                    have hkc : pw_KC gh58 h93 l (pw_g gh58 125 32) := by rw [← b9]; exact hqkeep.cg hl95 hl96
                                    have cE : pw_E [145, 146, 147] gh58 h93 := (((((h74E.wk (W' := [145, 146, 147]) (by first | rfl | simp)).tr (h78E.wk (W' := [145, 146, 147]) (by first | rfl | simp))).tr (h82E.wk (W' := [145, 146, 147]) (by first | rfl | simp))).tr (h86E.wk (W' := [145, 146, 147]) (by first | rfl | simp))).tr (h93E.wk (W' := [145, 146, 147]) (by first | rfl | simp)))
                                    have hk0 : K (pw_g gh58 125 7).toNat = 0 := by rw [← hx58_4.1]; first | assumption | omega
                                    obtain ⟨-, th, C, N, hTI, hML⟩ := hx58_5.resolve_right (fun q => by have := q.1; omega)
                                    have hRe := hTI.en (by omega) hk0
                                    rw [hRX] at hRe
                                    have hMS := hML.law (l := l) (by omega) (by omega) (by omega) (fun k hk => (hl98 _).trans (hcp.1 k hk)) hkc
                                    have hLO : pt_LO h h93 l := ⟨fun j hj q => ((hl98 _).trans (hcp.2 j q)).trans (hx58_3.1 j hj), fun j q1 q2 => ⟨(hkc.2 j q2).1.trans (hx58_3.2.1 j q1).1, (hkc.2 j q2).2.trans (hx58_3.2.1 j q1).2⟩, fun j => (hl97 j).trans (hx58_3.2.2 j)⟩
                                    have hrel : pw_g h93 125 2 = 0 ∧ (¬ (0 ≤ l ∧ l ≤ 3) → (0 : Int) = -1 ∧ pw_O h h93) ∧ (0 ≤ l → l ≤ 3 → ∃ L : List pt_tok, pt_sg (pw_g h 126) (pw_g h 125 2).toNat 0 L (pw_g h 125 2).toNat ∧ (0 : Int) = (pt_TX 0 L (pw_g h 125 2).toNat).1 ∧ ((0 : Int) ≠ 0 → pw_O h h93) ∧ ((0 : Int) = 0 → pt_MS h93 l (pt_TX 0 L (pw_g h 125 2).toNat).2.1 (pt_TX 0 L (pw_g h 125 2).toNat).2.2.1 ∧ pt_LO h h93 l)) := ⟨(pt_e2 cE rfl).trans hx58_6, fun q => absurd ⟨by omega, by omega⟩ q, fun _ _ => ⟨L, hsg, by rw [hRe], fun q => absurd rfl q, fun _ => ⟨by rw [hRe]; exact hMS, hLO⟩⟩⟩
                                    exact ⟨h93I, h93F, (hp0.of hx58_3.1 hx58_3.2.1 hx58_3.2.2).law (by omega) (by omega) (hx58_2 (by omega)) (by omega) (fun k hk => (hl98 _).trans (hcp.1 k hk)) (fun j _ hj => (hl98 _).trans (hcp.2 j hj)) hkc hl97, ⟨_, rfl, by omega, by omega, hrel⟩⟩
                                  · intro hc99
                                    change ¬ ((4 : Int) ≤ (((0 + 1) + 1) + 1) + 1) at hc99
                                    exfalso; omega
                        · intro hc100
                          change ¬ (pw_g gh58 125 8 ≤ (0 : Int)) at hc100
                          exfalso; omega
                      · intro hc101
                        change ¬ (pw_g gh58 127 ((pw_g gh58 125 7).toNat) = (0 : Int)) at hc101
                        have hA58 : pw_g gh58 125 7 ≤ n ∧ 0 ≤ pw_g gh58 125 8 ∧ 0 ≤ pw_g gh58 125 7 ∧ 0 ≤ pw_g gh58 125 32 := hx58_0.2.2
                        refine pw_ld E (pc' := 78) (st' := [.ref 141]) rfl (fun _ => rfl) ?_
                        have hk0 : K (pw_g gh58 125 7).toNat ≠ 0 := by rw [← hx58_4.1]; first | assumption | omega
                        obtain ⟨-, th, C, N, hTI, hML⟩ := hx58_5.resolve_right (fun q => by have := q.1; omega)
                        obtain ⟨f102l, f102h, -⟩ := pw_obj (c := 125) I58 rfl
                        refine pw_call (m' := 243) (As := [.ref 141]) (rest := []) (ls'' := [some (.ref 141), none, none]) (Nat.le_trans (by decide) hd) E rfl (fun _ => pw_iV rfl rfl rfl rfl (pw_cellI f102h rfl)) (rfl : pm_ent 243 = some (1, 3, 12, 4, pmc_243)) rfl rfl (pw_and (cm_243 (pw_dp hd (by decide)) I58 hx58_0 (by omega) hx58_2) (cm_243_t (by omega) I58 n K V P th C hx58_0 (by omega) hx58_4 hnv (by omega) hk0 hML)) ?_
                        rintro h103 v104 ⟨⟨h103I, h103E, ⟨rA, rQ, rL, r5⟩, rfl⟩, ⟨-, -, ⟨rT, rX⟩, -⟩⟩
                        refine ⟨_, rfl, ?_⟩
                        have h103F := E58.tr (h103E.wk (W' := [125, 127, 128, 129, 145, 146, 147, 1002]) (by first | rfl | simp))
                        have rf : pw_g h103 125 7 ≤ n ∧ 0 ≤ pw_g h103 125 8 ∧ 0 ≤ pw_g h103 125 7 ∧ 0 ≤ pw_g h103 125 32 := rA.2.2
                        have rq : pw_g gh58 125 7 - pw_g gh58 125 32 + 0 ≤ pw_g h103 125 7 - pw_g h103 125 32 ∧ pw_g gh58 125 7 ≤ pw_g h103 125 7 := ⟨rQ.2.2.2.1, rQ.2.1⟩
                        have rp : pw_g h103 125 8 = 0 → pw_g gh58 125 7 < pw_g h103 125 7 := fun q => (rL q).2
                        have rO : pw_O gh58 h103 := pw_O.q (by omega) rQ r5 (pw_Eg (c := 157) I58 h103E rfl rfl)
                        have r2 : pw_g h103 125 2 = 0 := (pt_e2 h103E rfl).trans hx58_6
                        have hst := hTI.st (by omega) hk0
                        have rR : pt_RS 0 K V P n R h103 := by
                          rcases rX with ⟨q, e⟩ | ⟨q, e, e7, m⟩
                          · exact Or.inr ⟨q, by rw [hst.1 (by rw [e]; exact q)]; exact e⟩
                          · have hs2 := hst.2 e (by rw [← e7]; exact rp q)
                            rw [← e7] at hs2
                            exact Or.inl ⟨q, _, _, _, hs2, m⟩
                        clear rX hst
                        show pw X d h103 237 81 [some (.ref 141), some (pw_i l), some (pw_i ((((0 + 1) + 1) + 1) + 1))] [] _
                        refine pw_goto E (pc' := 58) rfl (by decide) ?_
                        exact ih58 _ (by omega)  h103 h103I h103F  rA (by omega) (fun q => (rL q).1) (hx58_3.tr rO) rT rR r2 rfl
                have he105 : pw_g h23 125 7 = pw_g h20 125 7 := by rw [← h23w]; exact pw_g_ne (by omega)
                have he106 : pw_g h20 125 7 = pw_g h17 125 7 := by rw [← h20w]; exact pw_g_ne (by omega)
                have he107 : pw_g h17 125 7 = pw_g h14 125 7 := by rw [← h17w]; exact pw_g_ne (by omega)
                have he108 : pw_g h14 125 7 = pw_g h11 125 7 := by rw [← h14w]; exact pw_g_ne (by omega)
                have he109 : pw_g h11 125 7 = pw_g h10 125 7 := by rw [← h11w]; exact pw_g_ne (by omega)
                have he110 : pw_g h10 125 7 = pw_g h8 125 7 := by rw [← h10w]; exact pw_g_ne (by omega)
                have he111 : pw_g h23 125 8 = pw_g h20 125 8 := by rw [← h23w]; exact pw_g_ne (by omega)
                have he112 : pw_g h20 125 8 = pw_g h17 125 8 := by rw [← h20w]; exact pw_g_ne (by omega)
                have he113 : pw_g h17 125 8 = pw_g h14 125 8 := by rw [← h17w]; exact pw_g_ne (by omega)
                have he114 : pw_g h14 125 8 = pw_g h11 125 8 := by rw [← h14w]; exact pw_g_ne (by omega)
                have he115 : pw_g h11 125 8 = pw_g h10 125 8 := by rw [← h11w]; exact pw_g_ne (by omega)
                have he116 : pw_g h10 125 8 = pw_g h8 125 8 := by rw [← h10w]; exact pw_g_ne (by omega)
                have he117 : pw_g h23 125 32 = pw_g h20 125 32 := by rw [← h23w]; exact pw_g_ne (by omega)
                have he118 : pw_g h20 125 32 = pw_g h17 125 32 := by rw [← h20w]; exact pw_g_ne (by omega)
                have he119 : pw_g h17 125 32 = pw_g h14 125 32 := by rw [← h17w]; exact pw_g_ne (by omega)
                have he120 : pw_g h14 125 32 = pw_g h11 125 32 := by rw [← h14w]; exact pw_g_ne (by omega)
                have he121 : pw_g h11 125 32 = pw_g h10 125 32 := by rw [← h11w]; exact pw_g_ne (by omega)
                have he122 : pw_g h10 125 32 = 0 := by rw [← h10w]; exact pw_g_eq (c := 125) (k := 32) h8I rfl rfl (by omega) (by omega)
                exact L58 _  h23 h23I h23F  bA (by omega) (fun _ => bL) bO bT bR b2 rfl
              · intro hc123
                change ¬ ((4 : Int) ≤ (((0 + 1) + 1) + 1) + 1) at hc123
                exfalso; omega
    · intro hc124
      change ¬ (x4 ≠ (0 : Int)) at hc124
      exfalso; omega
  · skip
    refine pw_if E (pc' := 21) rfl (by decide) (by omega) (by omega) ?_ ?_
    · intro hc126
      change x4 ≠ (0 : Int) at hc126
      exfalso; omega
    · intro hc127
      change ¬ (x4 ≠ (0 : Int)) at hc127
      refine pw_ld E (pc' := 15) (st' := [.ref 141]) rfl (fun _ => rfl) ?_
      refine pw_ld E (pc' := 16) (st' := [pw_i 0, .ref 141]) rfl (fun _ => rfl) ?_
      refine pw_putP h1I E (k := 2) (pc' := 19) rfl rfl rfl rfl (by omega) (by omega) (by omega) (by omega) rfl rfl ?_
      intro h128I h128E
      generalize h128w : pw_w h1 125 2 (pw_i 0) = h128 at h128I h128E ⊢
      have h128F := h1F.tr (h128E.wk (W' := [125, 127, 128, 129, 145, 146, 147, 1002]) (by first | rfl | simp))
      refine pw_ld E (pc' := 20) (st' := [pw_i ((-1))]) rfl (fun _ => rfl) ?_
      refine pw_iret E rfl ?_
      have hl129 : ∀ j : Nat, pw_g h128 145 j = pw_g h 145 j := fun j => ((by rw [← h128w]; exact pw_g_ne (by omega) : pw_g h128 145 j = pw_g h1 145 j)).trans (by rw [← h1w]; exact pw_g_ne (by omega) : pw_g h1 145 j = pw_g h 145 j)
      have hl130 : ∀ j : Nat, pw_g h128 146 j = pw_g h 146 j := fun j => ((by rw [← h128w]; exact pw_g_ne (by omega) : pw_g h128 146 j = pw_g h1 146 j)).trans (by rw [← h1w]; exact pw_g_ne (by omega) : pw_g h1 146 j = pw_g h 146 j)
      have hl131 : ∀ j : Nat, pw_g h128 147 j = pw_g h 147 j := fun j => ((by rw [← h128w]; exact pw_g_ne (by omega) : pw_g h128 147 j = pw_g h1 147 j)).trans (by rw [← h1w]; exact pw_g_ne (by omega) : pw_g h1 147 j = pw_g h 147 j)
      have hl132 : ∀ j : Nat, pw_g h128 157 j = pw_g h 157 j := fun j => ((by rw [← h128w]; exact pw_g_ne (by omega) : pw_g h128 157 j = pw_g h1 157 j)).trans (by rw [← h1w]; exact pw_g_ne (by omega) : pw_g h1 157 j = pw_g h 157 j)
      have ht2 : pw_g h128 125 2 = 0 := by rw [← h128w]; exact pw_g_eq (c := 125) (k := 2) h1I rfl rfl (by omega) (by omega)
      have hrel : pw_g h128 125 2 = 0 ∧ (¬ (0 ≤ l ∧ l ≤ 3) → (-1 : Int) = -1 ∧ pw_O h h128) ∧ (0 ≤ l → l ≤ 3 → ∃ L : List pt_tok, pt_sg (pw_g h 126) (pw_g h 125 2).toNat 0 L (pw_g h 125 2).toNat ∧ (-1 : Int) = (pt_TX 0 L (pw_g h 125 2).toNat).1 ∧ ((-1 : Int) ≠ 0 → pw_O h h128) ∧ ((-1 : Int) = 0 → pt_MS h128 l (pt_TX 0 L (pw_g h 125 2).toNat).2.1 (pt_TX 0 L (pw_g h 125 2).toNat).2.2.1 ∧ pt_LO h h128 l)) := ⟨ht2, fun _ => ⟨rfl, fun j _ => hl129 j, fun j _ => ⟨hl130 j, hl131 j⟩, hl132⟩, fun q1 q2 => by exfalso; omega⟩
      exact ⟨h128I, h128F, hp0.cg hl129 hl130 hl131 hl132, ⟨_, rfl, by omega, by omega, hrel⟩⟩
end
section
/-! texts: what waits and the code as the class has them -/
/-- the first n of a row, the last first -/
def px_st (w : Nat → Int) : Nat → List Int
  | 0 => []
  | k + 1 => w k :: px_st w k
theorem px_st_len {w : Nat → Int} (n : Nat) : (px_st w n).length = n := by
  induction n with
  | zero => rfl
  | succ n ih => show (px_st w n).length + 1 = n + 1; rw [ih]
theorem px_st_cg {w w' : Nat → Int} : ∀ n : Nat, (∀ j : Nat, j < n → w' j = w j) → px_st w' n = px_st w n := by
  intro n
  induction n with
  | zero => intro _; rfl
  | succ n ih =>
    intro H
    show w' n :: px_st w' n = w n :: px_st w n
    rw [H n (Nat.lt_succ_self n), ih (fun j hj => H j (by omega))]
def px_S (c : Nat) (h : pm_H) : List Int := px_st (pw_g h (c + 1)) (pw_g h c 4).toNat
def px_C (h : pm_H) (st : Int) : List Int := px_st (fun j => pw_g h 36 (st.toNat + j)) (pw_g h 30 1 - st).toNat
theorem px_S0 {c : Nat} {h : pm_H} (h0 : pw_g h c 4 ≤ 0) : px_S c h = [] := by
  unfold px_S
  rw [show (pw_g h c 4).toNat = 0 by omega]
  rfl
theorem px_S1 {c : Nat} {h : pm_H} (h0 : 0 < pw_g h c 4) : px_S c h = pw_g h (c + 1) (pw_g h c 4 - 1).toNat :: px_st (pw_g h (c + 1)) (pw_g h c 4 - 1).toNat := by
  unfold px_S
  rw [show (pw_g h c 4).toNat = (pw_g h c 4 - 1).toNat + 1 by omega]
  rfl
/-- one off the top -/
theorem px_S.pop {c : Nat} {h h' : pm_H} {S : List Int} {x : Int} (h0 : 0 < pw_g h c 4) (e : pw_g h' c 4 = pw_g h c 4 - 1) (w : ∀ j : Nat, pw_g h' (c + 1) j = pw_g h (c + 1) j) (hS : px_S c h = x :: S) : px_S c h' = S := by
  rw [px_S1 h0] at hS
  unfold px_S
  rw [e, px_st_cg _ (fun j _ => w j)]
  exact (List.cons.inj hS).2
theorem px_S.push {c : Nat} {h h' : pm_H} {x : Int} (h0 : 0 ≤ pw_g h c 4) (e : pw_g h' c 4 = pw_g h c 4 + 1) (hx : pw_g h' (c + 1) (pw_g h c 4).toNat = x) (w : ∀ j : Nat, j ≠ (pw_g h c 4).toNat → pw_g h' (c + 1) j = pw_g h (c + 1) j) : px_S c h' = x :: px_S c h := by
  unfold px_S
  rw [e, show (pw_g h c 4 + 1).toNat = (pw_g h c 4).toNat + 1 by omega]
  show pw_g h' (c + 1) (pw_g h c 4).toNat :: px_st (pw_g h' (c + 1)) (pw_g h c 4).toNat = _
  rw [hx, px_st_cg _ (fun j hj => w j (by omega))]
theorem px_S.eq {c : Nat} {h h' : pm_H} (e : pw_g h' c 4 = pw_g h c 4) (w : ∀ j : Nat, pw_g h' (c + 1) j = pw_g h (c + 1) j) : px_S c h' = px_S c h := by
  unfold px_S
  rw [e]
  exact px_st_cg _ (fun j _ => w j)
/-- a word more in the draft -/
def px_EM (h h' : pm_H) (li wd : Int) : Prop := pw_g h' 30 1 = pw_g h 30 1 + 1 ∧ pw_g h' 36 (pw_g h 30 1).toNat = wd ∧ (∀ j : Nat, j ≠ (pw_g h 30 1).toNat → pw_g h' 36 j = pw_g h 36 j) ∧ pw_g h' 33 li.toNat = pw_g h 30 1 + 1 ∧ ∀ j : Nat, j ≠ li.toNat → pw_g h' 33 j = pw_g h 33 j
theorem px_C.em {h h' : pm_H} {li wd st : Int} (m : px_EM h h' li wd) (h0 : 0 ≤ st) (h1 : st ≤ pw_g h 30 1) : px_C h' st = wd :: px_C h st := by
  obtain ⟨m1, m2, m3, -, -⟩ := m
  unfold px_C
  rw [show (pw_g h' 30 1 - st).toNat = (pw_g h 30 1 - st).toNat + 1 by omega]
  show pw_g h' 36 (st.toNat + (pw_g h 30 1 - st).toNat) :: px_st (fun j => pw_g h' 36 (st.toNat + j)) (pw_g h 30 1 - st).toNat = _
  rw [show st.toNat + (pw_g h 30 1 - st).toNat = (pw_g h 30 1).toNat by omega, m2, px_st_cg _ (fun j hj => m3 _ (by omega))]
theorem px_C.eq {h h' : pm_H} {st : Int} (e : pw_g h' 30 1 = pw_g h 30 1) (w : ∀ j : Nat, pw_g h' 36 j = pw_g h 36 j) : px_C h' st = px_C h st := by
  unfold px_C
  rw [e]
  exact px_st_cg _ (fun j _ => w _)
/-- what the draft keeps while a line's code grows: what stood, the other lines; the line ends where the code does -/
def px_B (c : Nat) (h h' : pm_H) : Prop := pw_g h 30 1 ≤ pw_g h' 30 1 ∧ (∀ j : Nat, (j : Int) < pw_g h 30 1 → pw_g h' 36 j = pw_g h 36 j) ∧ pw_g h' 33 (pw_g h c 8).toNat = pw_g h' 30 1 ∧ ∀ j : Nat, j ≠ (pw_g h c 8).toNat → pw_g h' 33 j = pw_g h 33 j
theorem px_B.rf {c : Nat} {h : pm_H} (e : pw_g h 33 (pw_g h c 8).toNat = pw_g h 30 1) : px_B c h h := ⟨Int.le_refl _, fun _ _ => rfl, e, fun _ _ => rfl⟩
theorem px_B.tr {c : Nat} {h g g' : pm_H} (H : px_B c h g) (e8 : pw_g g c 8 = pw_g h c 8) (G : px_B c g g') : px_B c h g' := by
  obtain ⟨a1, a2, a3, a4⟩ := H
  obtain ⟨b1, b2, b3, b4⟩ := G
  rw [e8] at b3 b4
  exact ⟨by omega, fun j hj => (b2 j (by omega)).trans (a2 j hj), b3, fun j hj => (b4 j hj).trans (a4 j hj)⟩
theorem px_B.em {c : Nat} {h g g' : pm_H} {wd : Int} (H : px_B c h g) (e8 : pw_g g c 8 = pw_g h c 8) (m : px_EM g g' (pw_g g c 8) wd) : px_B c h g' := by
  obtain ⟨a1, a2, a3, a4⟩ := H
  obtain ⟨m1, m2, m3, m4, m5⟩ := m
  rw [e8] at m4 m5
  exact ⟨by omega, fun j hj => (m3 j (by omega)).trans (a2 j hj), by omega, fun j hj => (m5 j hj).trans (a4 j hj)⟩
theorem px_B.eq {c : Nat} {h g g' : pm_H} (H : px_B c h g) (e1 : pw_g g' 30 1 = pw_g g 30 1) (e6 : ∀ j : Nat, pw_g g' 36 j = pw_g g 36 j) (e3 : ∀ j : Nat, pw_g g' 33 j = pw_g g 33 j) : px_B c h g' := by
  obtain ⟨a1, a2, a3, a4⟩ := H
  exact ⟨by omega, fun j hj => (e6 j).trans (a2 j hj), by rw [e3, e1]; exact a3, fun j hj => (e3 j).trans (a4 j hj)⟩
/-- how deep, how many brackets; what may wait -/
def px_dc : List Int → Int
  | [] => 0
  | x :: S => px_dc S + (if x = 8 ∨ x = 9 then 1 else 0)
def px_oc : List Int → Int
  | [] => 0
  | x :: S => px_oc S + (if x = 9 then 1 else 0)
def px_wf : List Int → Prop
  | [] => True
  | x :: S => 1 ≤ x ∧ x ≤ 9 ∧ (x < 8 → pt_n8 S ∧ pt_tr S < pt_rk x) ∧ px_wf S
theorem px_dcB : ∀ S : List Int, 0 ≤ px_oc S ∧ px_oc S ≤ px_dc S := by
  intro S
  induction S with
  | nil => exact ⟨Int.le_refl _, Int.le_refl _⟩
  | cons x S ih =>
    have e1 : px_dc (x :: S) = px_dc S + (if x = 8 ∨ x = 9 then 1 else 0) := rfl
    have e2 : px_oc (x :: S) = px_oc S + (if x = 9 then 1 else 0) := rfl
    rw [e1, e2]
    by_cases q : x = 9
    · rw [if_pos (Or.inr q), if_pos q]; omega
    · rw [if_neg q]
      split <;> omega
theorem px_rk_sm {x : Int} (h : 1 ≤ pt_rk x) : x ≠ 8 ∧ x ≠ 9 := by
  refine ⟨fun q => ?_, fun q => ?_⟩
  · rw [q] at h; exact absurd h (by decide)
  · rw [q] at h; exact absurd h (by decide)
theorem px_rk_0 {x : Int} (h1 : 1 ≤ x) (h9 : x ≤ 9) (h : pt_rk x < 1) : x = 8 ∨ x = 9 := by
  rcases (by omega : x = 1 ∨ x = 2 ∨ x = 3 ∨ x = 4 ∨ x = 5 ∨ x = 6 ∨ x = 7 ∨ x = 8 ∨ x = 9) with q | q | q | q | q | q | q | q | q
  all_goals first | exact Or.inl q | exact Or.inr q | (rw [q] at h; exact absurd h (by decide))
theorem px_rlW {r : Int} (hr : 1 ≤ r) : ∀ (S c : List Int), px_dc (pt_rl r S c).1 = px_dc S ∧ px_oc (pt_rl r S c).1 = px_oc S ∧ (px_wf S → px_wf (pt_rl r S c).1 ∧ (pt_n8 S → pt_n8 (pt_rl r S c).1)) := by
  intro S
  induction S with
  | nil => intro c; exact ⟨rfl, rfl, fun _ => ⟨trivial, fun _ => trivial⟩⟩
  | cons x S ih =>
    intro c
    by_cases q : r ≤ pt_rk x
    · obtain ⟨i1, i2, i3⟩ := ih (-x :: c)
      obtain ⟨n8, n9⟩ := px_rk_sm (x := x) (by omega)
      have e1 : px_dc (x :: S) = px_dc S + (if x = 8 ∨ x = 9 then 1 else 0) := rfl
      have e2 : px_oc (x :: S) = px_oc S + (if x = 9 then 1 else 0) := rfl
      rw [pt_rl_ge q, e1, e2, if_neg (fun z => z.elim n8 n9), if_neg n9, i1, i2]
      exact ⟨by omega, by omega, fun w => ⟨(i3 w.2.2.2).1, fun _ => (i3 w.2.2.2).2 (w.2.2.1 (by have := w.2.1; omega)).1⟩⟩
    · have e : pt_rl r (x :: S) c = (x :: S, c) := if_neg q
      rw [e]
      exact ⟨rfl, rfl, fun w => ⟨w, fun z => z⟩⟩
theorem px_rlT {r : Int} : ∀ (S c : List Int), pt_tr (pt_rl r S c).1 < r ∨ (pt_rl r S c).1 = [] := by
  intro S
  induction S with
  | nil => intro c; exact Or.inr rfl
  | cons x S ih =>
    intro c
    by_cases q : r ≤ pt_rk x
    · rw [pt_rl_ge q]; exact ih _
    · have e : pt_rl r (x :: S) c = (x :: S, c) := if_neg q
      rw [e]
      exact Or.inl (by show pt_rk x < r; omega)
theorem px_epW : ∀ (S : List Int) (d : Int) (c : List Int), d = px_dc S → px_wf S → (pt_ep S d c).2.1 = px_dc (pt_ep S d c).1 ∧ px_oc (pt_ep S d c).1 = px_oc S ∧ px_wf (pt_ep S d c).1 ∧ (pt_ep S d c).2.1 ≤ d ∧ pt_n8 (pt_ep S d c).1 := by
  intro S
  induction S with
  | nil => intro d c h _; exact ⟨h, rfl, trivial, Int.le_refl _, trivial⟩
  | cons x S ih =>
    intro d c h w
    by_cases q : x = 8
    · have e : pt_ep (x :: S) d c = pt_ep S (d - 1) (-8 :: c) := if_pos q
      have e1 : px_dc (x :: S) = px_dc S + (if x = 8 ∨ x = 9 then 1 else 0) := rfl
      have e2 : px_oc (x :: S) = px_oc S + (if x = 9 then 1 else 0) := rfl
      rw [if_pos (Or.inl q)] at e1
      rw [if_neg (by omega)] at e2
      obtain ⟨i1, i2, i3, i4, i5⟩ := ih (d - 1) (-8 :: c) (by omega) w.2.2.2
      rw [e]
      exact ⟨i1, by omega, i3, by omega, i5⟩
    · have e : pt_ep (x :: S) d c = (x :: S, d, c) := if_neg q
      rw [e]
      exact ⟨h, rfl, w, Int.le_refl _, q⟩
/-- behind a closing bracket's release an open one is on top -/
theorem px_clT {S c : List Int} (w : px_wf S) (n : pt_n8 S) (ho : 0 < px_oc S) : ∃ T, (pt_rl 1 S c).1 = 9 :: T ∧ px_dc T = px_dc S - 1 ∧ px_oc T = px_oc S - 1 ∧ px_wf T := by
  obtain ⟨a1, a2, a3⟩ := px_rlW (r := 1) (Int.le_refl _) S c
  have t := px_rlT (r := 1) S c
  cases e : (pt_rl 1 S c).1 with
  | nil =>
    rw [e] at a2
    have : px_oc [] = 0 := rfl
    omega
  | cons x T =>
    rw [e] at a1 a2 a3 t
    obtain ⟨w2, n2⟩ := a3 w
    have hx := px_rk_0 w2.1 w2.2.1 (by
      rcases t with t | t
      · exact t
      · exact absurd t (List.cons_ne_nil _ _))
    have h9 : x = 9 := hx.resolve_left (n2 n)
    have e1 : px_dc (x :: T) = px_dc T + (if x = 8 ∨ x = 9 then 1 else 0) := rfl
    have e2 : px_oc (x :: T) = px_oc T + (if x = 9 then 1 else 0) := rfl
    rw [if_pos hx] at e1
    rw [if_pos h9] at e2
    exact ⟨T, by rw [h9], by omega, by omega, w2.2.2.2⟩
theorem px_rkE {x : Int} (h0 : 0 ≤ x) (h9 : x ≤ 9) : pw_rk x = pt_rk x := by
  rcases (by omega : x = 0 ∨ x = 1 ∨ x = 2 ∨ x = 3 ∨ x = 4 ∨ x = 5 ∨ x = 6 ∨ x = 7 ∨ x = 8 ∨ x = 9) with q | q | q | q | q | q | q | q | q | q <;> rw [q] <;> decide
/-- pushed -/
def px_PU (c : Nat) (h h' : pm_H) (x : Int) : Prop := pw_g h' c 4 = pw_g h c 4 + 1 ∧ pw_g h' (c + 1) (pw_g h c 4).toNat = x ∧ (∀ j : Nat, j ≠ (pw_g h c 4).toNat → pw_g h' (c + 1) j = pw_g h (c + 1) j) ∧ ∀ k : Nat, k ≠ 4 → pw_g h' c k = pw_g h c k
/-- released -/
def px_RL (c : Nat) (st rk : Int) (h h' : pm_H) : Prop := pt_rl rk (px_S c h) (px_C h st) = (px_S c h', px_C h' st) ∧ pw_g h' 30 1 + pw_g h' c 4 = pw_g h 30 1 + pw_g h c 4 ∧ px_B c h h' ∧ ∀ k : Nat, k ≠ 4 → pw_g h' c k = pw_g h c k
/-- a part ended -/
def px_EP (c : Nat) (st : Int) (h h' : pm_H) : Prop := pt_ep (px_S c h) (pw_g h c 5) (px_C h st) = (px_S c h', pw_g h' c 5, px_C h' st) ∧ pw_g h' 30 1 + pw_g h' c 4 = pw_g h 30 1 + pw_g h c 4 ∧ px_B c h h' ∧ pw_g h' c 7 = 3 ∧ ∀ k : Nat, k ≠ 4 → k ≠ 5 → k ≠ 7 → pw_g h' c k = pw_g h c k
theorem px_loopR {c : Nat} {rk : Int} {h : pm_H} {st : Int} (h0 : pw_g h c 4 ≤ 0 ∨ pt_tr (px_S c h) < rk) : pt_rl rk (px_S c h) (px_C h st) = (px_S c h, px_C h st) := by
  rcases h0 with q | q
  · rw [px_S0 q]; rfl
  · exact pt_rl_lt q
end
section
/-! the class's Readers, exactly -/
set_option maxHeartbeats 4000000 in
theorem cm_71_x {X : List (Nat × List Value)} {d : Nat} {h : pm_H} (hd : 1 ≤ d) (I : pw_I h) (li : Int) (hli1 : 0 ≤ li) (hli2 : li ≤ 3) (wd : Int) (hwd1 : (-2147483648) ≤ wd) (hwd2 : wd ≤ 2147483647) (hp0 : pw_g h 30 1 ≤ 999) : pw X d h 71 0 [some (.ref 46), some (pw_i li), some (pw_i wd)] [] (fun h' v => pw_I h' ∧ pw_E [30, 33, 36] h h' ∧ (px_EM h h' li wd) ∧ (v = .inl none)) := by
  have E : pm_ent 71 = some (3, 3, 7, 4, pmc_71) := rfl
  have E0 : pw_E [30, 33, 36] h h := pw_E.rf _ _
  refine pw_ld E (pc' := 1) (st' := [.ref 46]) rfl (fun _ => rfl) ?_
  refine pw_getI2 I E (c := 30) (k := 1) (pc' := 4) rfl rfl rfl rfl rfl rfl (fun hf1a hf1b => ?_)
  refine pw_ld E (pc' := 5) (st' := [.ref 46, pw_i (pw_g h 30 1)]) rfl (fun _ => rfl) ?_
  refine pw_getR (b := 52) I E (c := 30) (k := 0) (pc' := 8) rfl rfl rfl rfl rfl rfl rfl ?_
  obtain ⟨z2l, z2h, z2n, -⟩ := pw_arr (c := 36) I rfl
  refine pw_alen E (pc' := 9) rfl (pw_rowI z2h rfl) rfl rfl ?_
  rw [z2n]
  refine pw_if2 E (pc' := 42) rfl (by decide) (by omega) (by omega) (by decide) (by decide) ?_ ?_
  · intro hc3
    change (1000 : Nat) ≤ pw_g h 30 1 at hc3
    exfalso; omega
  · intro hc4
    change ¬ ((1000 : Nat) ≤ pw_g h 30 1) at hc4
    refine pw_ld E (pc' := 13) (st' := [.ref 46]) rfl (fun _ => rfl) ?_
    refine pw_getR (b := 52) I E (c := 30) (k := 0) (pc' := 16) rfl rfl rfl rfl rfl rfl rfl ?_
    refine pw_ld E (pc' := 17) (st' := [.ref 46, .ref 52]) rfl (fun _ => rfl) ?_
    refine pw_getI2 I E (c := 30) (k := 1) (pc' := 20) rfl rfl rfl rfl rfl rfl (fun hf5a hf5b => ?_)
    refine pw_ld E (pc' := 21) (st' := [pw_i wd, pw_i (pw_g h 30 1), .ref 52]) rfl (fun _ => rfl) ?_
    refine pw_ast0 I E (c := 36) (pc' := 22) rfl rfl rfl (by decide) rfl (by decide) (by omega) (by omega) rfl (by omega) (by omega) (by omega) (by omega) rfl ?_
    intro h6I h6E
    generalize h6w : pw_w h 36 ((pw_g h 30 1).toNat) (pw_i wd) = h6 at h6I h6E ⊢
    have h6F := E0.tr (h6E.wk (W' := [30, 33, 36]) (by first | rfl | simp))
    refine pw_ld E (pc' := 23) (st' := [.ref 46]) rfl (fun _ => rfl) ?_
    refine pw_ld E (pc' := 24) (st' := [.ref 46, .ref 46]) rfl (fun _ => rfl) ?_
    have he8 : pw_g h6 30 1 = pw_g h 30 1 := by rw [← h6w]; exact pw_g_ne (by omega)
    refine pw_getI2 h6I E (c := 30) (k := 1) (pc' := 27) rfl rfl rfl rfl rfl rfl (fun hf7a hf7b => ?_)
    refine pw_ld E (pc' := 28) (st' := [pw_i 1, pw_i (pw_g h6 30 1), .ref 46]) rfl (fun _ => rfl) ?_
    refine pw_add E (pc' := 29) rfl rfl ?_
    refine pw_putI h6I E (c := 30) (k := 1) (pc' := 32) rfl rfl rfl rfl (by omega) (by omega) (by omega) (by omega) rfl rfl ?_
    intro h9I h9E
    generalize h9w : pw_w h6 30 1 (pw_i ((pw_g h6 30 1) + 1)) = h9 at h9I h9E ⊢
    have h9F := h6F.tr (h9E.wk (W' := [30, 33, 36]) (by first | rfl | simp))
    refine pw_ld E (pc' := 33) (st' := [.ref 46]) rfl (fun _ => rfl) ?_
    refine pw_getR (b := 49) h9I E (c := 30) (k := 4) (pc' := 36) rfl rfl rfl rfl rfl rfl rfl ?_
    refine pw_ld E (pc' := 37) (st' := [pw_i li, .ref 49]) rfl (fun _ => rfl) ?_
    refine pw_ld E (pc' := 38) (st' := [.ref 46, pw_i li, .ref 49]) rfl (fun _ => rfl) ?_
    have he11 : pw_g h9 30 1 = (pw_g h6 30 1) + 1 := by rw [← h9w]; exact pw_g_eq (c := 30) (k := 1) h6I rfl rfl (by omega) (by omega)
    refine pw_getI2 h9I E (c := 30) (k := 1) (pc' := 41) rfl rfl rfl rfl rfl rfl (fun hf10a hf10b => ?_)
    refine pw_ast0 h9I E (c := 33) (pc' := 42) rfl rfl rfl (by decide) rfl (by decide) (by omega) (by omega) rfl (by omega) (by omega) (by omega) (by omega) rfl ?_
    intro h12I h12E
    generalize h12w : pw_w h9 33 (li.toNat) (pw_i (pw_g h9 30 1)) = h12 at h12I h12E ⊢
    have h12F := h9F.tr (h12E.wk (W' := [30, 33, 36]) (by first | rfl | simp))
    refine pw_vret E rfl ?_
    have q1 : pw_g h6 30 1 = pw_g h 30 1 := by rw [← h6w]; exact pw_g_ne (by omega)
    have q2 : pw_g h9 30 1 = pw_g h6 30 1 + 1 := by rw [← h9w]; exact pw_g_eq (c := 30) (k := 1) h6I rfl rfl (by omega) (by omega)
    have q3 : pw_g h12 30 1 = pw_g h9 30 1 := by rw [← h12w]; exact pw_g_ne (by omega)
    have q4 : pw_g h6 36 (pw_g h 30 1).toNat = wd := by rw [← h6w]; exact pw_g_eqA I rfl (by omega) (by omega) (by omega)
    have q5 : pw_g h12 33 li.toNat = pw_g h9 30 1 := by rw [← h12w]; exact pw_g_eqA h9I rfl (by omega) (by omega) (by omega)
    exact ⟨h12I, h12F, ⟨by omega, by rw [← h12w, pw_g_ne (by omega), ← h9w, pw_g_ne (by omega)]; exact q4, fun j hj => by rw [← h12w, pw_g_ne (by omega), ← h9w, pw_g_ne (by omega), ← h6w]; exact pw_g_ne (fun q => hj q.2.symm), by omega, fun j hj => by rw [← h12w, pw_g_ne (fun q => hj q.2.symm), ← h9w, pw_g_ne (by omega), ← h6w]; exact pw_g_ne (by omega)⟩, rfl⟩
set_option maxHeartbeats 4000000 in
theorem cm_48_x26 {X : List (Nat × List Value)} {d : Nat} {h : pm_H} (hd : 1 ≤ d) (I : pw_I h) (x : Int) (hx1 : 1 ≤ x) (hx2 : x ≤ 9) (hp0 : pw_g h 26 4 ≤ 39) : pw X d h 48 0 [some (.ref 42), some (pw_i x)] [] (fun h' v => pw_I h' ∧ pw_E [26, 27] h h' ∧ (px_PU 26 h h' x) ∧ (v = .inl none)) := by
  have E : pm_ent 48 = some (2, 2, 5, 4, pmc_48) := rfl
  have E0 : pw_E [26, 27] h h := pw_E.rf _ _
  refine pw_ld E (pc' := 1) (st' := [.ref 42]) rfl (fun _ => rfl) ?_
  refine pw_getI2 I E (c := 26) (k := 4) (pc' := 4) rfl rfl rfl rfl rfl rfl (fun hf1a hf1b => ?_)
  refine pw_bip E (pc' := 6) rfl rfl (by decide) ?_
  refine pw_if2 E (pc' := 29) rfl (by decide) (by omega) (by omega) (by decide) (by decide) ?_ ?_
  · intro hc2
    change (40 : Int) ≤ pw_g h 26 4 at hc2
    exfalso; omega
  · intro hc3
    change ¬ ((40 : Int) ≤ pw_g h 26 4) at hc3
    refine pw_ld E (pc' := 10) (st' := [.ref 42]) rfl (fun _ => rfl) ?_
    refine pw_getR (b := 43) I E (c := 26) (k := 3) (pc' := 13) rfl rfl rfl rfl rfl rfl rfl ?_
    refine pw_ld E (pc' := 14) (st' := [.ref 42, .ref 43]) rfl (fun _ => rfl) ?_
    refine pw_getI2 I E (c := 26) (k := 4) (pc' := 17) rfl rfl rfl rfl rfl rfl (fun hf4a hf4b => ?_)
    refine pw_ld E (pc' := 18) (st' := [pw_i x, pw_i (pw_g h 26 4), .ref 43]) rfl (fun _ => rfl) ?_
    refine pw_ast0 I E (c := 27) (pc' := 19) rfl rfl rfl (by decide) rfl (by decide) (by omega) (by omega) rfl (by omega) (by omega) (by omega) (by omega) rfl ?_
    intro h5I h5E
    generalize h5w : pw_w h 27 ((pw_g h 26 4).toNat) (pw_i x) = h5 at h5I h5E ⊢
    have h5F := E0.tr (h5E.wk (W' := [26, 27]) (by first | rfl | simp))
    refine pw_ld E (pc' := 20) (st' := [.ref 42]) rfl (fun _ => rfl) ?_
    refine pw_ld E (pc' := 21) (st' := [.ref 42, .ref 42]) rfl (fun _ => rfl) ?_
    have he7 : pw_g h5 26 4 = pw_g h 26 4 := by rw [← h5w]; exact pw_g_ne (by omega)
    refine pw_getI2 h5I E (c := 26) (k := 4) (pc' := 24) rfl rfl rfl rfl rfl rfl (fun hf6a hf6b => ?_)
    refine pw_ld E (pc' := 25) (st' := [pw_i 1, pw_i (pw_g h5 26 4), .ref 42]) rfl (fun _ => rfl) ?_
    refine pw_add E (pc' := 26) rfl rfl ?_
    refine pw_putI h5I E (c := 26) (k := 4) (pc' := 29) rfl rfl rfl rfl (by omega) (by omega) (by omega) (by omega) rfl rfl ?_
    intro h8I h8E
    generalize h8w : pw_w h5 26 4 (pw_i ((pw_g h5 26 4) + 1)) = h8 at h8I h8E ⊢
    have h8F := h5F.tr (h8E.wk (W' := [26, 27]) (by first | rfl | simp))
    refine pw_vret E rfl ?_
    have q1 : pw_g h5 26 4 = pw_g h 26 4 := by rw [← h5w]; exact pw_g_ne (by omega)
    have q2 : pw_g h8 26 4 = pw_g h5 26 4 + 1 := by rw [← h8w]; exact pw_g_eq (c := 26) (k := 4) h5I rfl rfl (by omega) (by omega)
    have q4 : pw_g h5 27 (pw_g h 26 4).toNat = x := by rw [← h5w]; exact pw_g_eqA I rfl (by omega) (by omega) (by omega)
    exact ⟨h8I, h8F, ⟨by omega, by rw [← h8w, pw_g_ne (by omega)]; exact q4, fun j hj => by rw [← h8w, pw_g_ne (by omega), ← h5w]; exact pw_g_ne (fun q => hj q.2.symm), fun k hk => by rw [← h8w, pw_g_ne (fun q => hk q.2.symm), ← h5w]; exact pw_g_ne (by omega)⟩, rfl⟩
set_option maxHeartbeats 4000000 in
theorem cm_53_x26 {X : List (Nat × List Value)} {d : Nat} {h : pm_H} (hd : 1 ≤ d) (I : pw_I h) (hp0 : pw_Xr X) : pw X d h 53 0 [some (.ref 42)] [] (fun h' v => h = h' ∧ ∃ a : Int, v = .inl (some (pw_i a)) ∧ 0 ≤ a ∧ a ≤ 4 ∧ (a = pt_tr (px_S 26 h))) := by
  have E : pm_ent 53 = some (1, 1, 5, 0, pmc_53) := rfl
  refine pw_ld E (pc' := 1) (st' := [.ref 42]) rfl (fun _ => rfl) ?_
  refine pw_getI2 I E (c := 26) (k := 4) (pc' := 4) rfl rfl rfl rfl rfl rfl (fun hf1a hf1b => ?_)
  refine pw_if E (pc' := 25) rfl (by decide) (by omega) (by omega) ?_ ?_
  · intro hc2
    change pw_g h 26 4 ≤ (0 : Int) at hc2
    refine pw_ld E (pc' := 26) (st' := [pw_i 0]) rfl (fun _ => rfl) ?_
    refine pw_iret E rfl ?_
    exact ⟨rfl, ⟨_, rfl, by omega, by omega, by rw [px_S0 (by omega)]; rfl⟩⟩
  · intro hc3
    change ¬ (pw_g h 26 4 ≤ (0 : Int)) at hc3
    refine pw_ld E (pc' := 10) (st' := [.ref 3]) rfl (fun _ => rfl) ?_
    refine pw_ld E (pc' := 11) (st' := [.ref 42, .ref 3]) rfl (fun _ => rfl) ?_
    refine pw_getR (b := 43) I E (c := 26) (k := 3) (pc' := 14) rfl rfl rfl rfl rfl rfl rfl ?_
    refine pw_ld E (pc' := 15) (st' := [.ref 42, .ref 43, .ref 3]) rfl (fun _ => rfl) ?_
    refine pw_getI2 I E (c := 26) (k := 4) (pc' := 18) rfl rfl rfl rfl rfl rfl (fun hf4a hf4b => ?_)
    refine pw_ld E (pc' := 19) (st' := [pw_i 1, pw_i (pw_g h 26 4), .ref 43, .ref 3]) rfl (fun _ => rfl) ?_
    refine pw_sub E (pc' := 20) rfl rfl ?_
    refine pw_ald2 I E (c := 27) (pc' := 21) rfl rfl rfl (by decide) rfl (by decide) (by omega) (by omega) rfl (fun hf5a hf5b => ?_)
    refine pw_xaldR E (pc' := 22) rfl hp0 (by omega) (by omega) rfl ?_
    have hrk6 := pw_rk_le (pw_g h 27 (((pw_g h 26 4) - 1).toNat))
    refine pw_goto E (pc' := 26) rfl (by decide) ?_
    refine pw_iret E rfl ?_
    have e1 := px_rkE (x := pw_g h 27 (pw_g h 26 4 - 1).toNat) (by omega) (by omega)
    have e2 := pt_rkB (pw_g h 27 (pw_g h 26 4 - 1).toNat)
    exact ⟨rfl, ⟨_, rfl, by omega, by omega, by rw [px_S1 (c := 26) (by omega), e1]; rfl⟩⟩
set_option maxHeartbeats 4000000 in
theorem cm_52_x26 {X : List (Nat × List Value)} {d : Nat} {h : pm_H} (hd : 2 ≤ d) (I : pw_I h) (rk : Int) (hrk1 : 1 ≤ rk) (hrk2 : rk ≤ 4) (st : Int) (hp0 : pw_Xr X) (hp1 : pw_g h 30 1 + pw_g h 26 4 ≤ 1000) (hp2 : 0 ≤ st) (hp3 : st ≤ pw_g h 30 1) (hp4 : pw_g h 33 (pw_g h 26 8).toNat = pw_g h 30 1) : pw X d h 52 0 [some (.ref 42), some (pw_i rk), some (.ref 46)] [] (fun h' v => pw_I h' ∧ pw_E [26, 30, 33, 36] h h' ∧ (px_RL 26 st rk h h') ∧ (v = .inl none)) := by
  have E : pm_ent 52 = some (3, 3, 5, 4, pmc_52) := rfl
  have E0 : pw_E [26, 30, 33, 36] h h := pw_E.rf _ _
  have L0 : ∀ (n0 : Nat)  (gh0 : pm_H), pw_I gh0 → pw_E [26, 30, 33, 36] h gh0 → pt_rl rk (px_S 26 gh0) (px_C gh0 st) = pt_rl rk (px_S 26 h) (px_C h st) → pw_g gh0 30 1 + pw_g gh0 26 4 = pw_g h 30 1 + pw_g h 26 4 → px_B 26 h gh0 → ((∀ k : Nat, k ≠ 4 → pw_g gh0 26 k = pw_g h 26 k)) → (pw_g gh0 26 4).toNat = n0 → pw X d gh0 52 0 [some (.ref 42), some (pw_i rk), some (.ref 46)] [] (fun h' v => pw_I h' ∧ pw_E [26, 30, 33, 36] h h' ∧ (px_RL 26 st rk h h') ∧ (v = .inl none)) := by
    intro n0
    induction n0 using Nat.strongRecOn with
    | ind n0 ih0 =>
      intro  gh0 I0 E0 hx0_0 hx0_1 hx0_2 hx0_3 hm0
      refine pw_ld E (pc' := 1) (st' := [.ref 42]) rfl (fun _ => rfl) ?_
      refine pw_getI2 I0 E (c := 26) (k := 4) (pc' := 4) rfl rfl rfl rfl rfl rfl (fun hf1a hf1b => ?_)
      have e80 := hx0_3 8 (by decide)
      have hr4 := pw_gI (c := 26) (k := 4) I0 rfl rfl
      have hr1 := pw_gI (c := 30) (k := 1) I0 rfl rfl
      have hB1 := hx0_2.1
      have hXr := hp0
      refine pw_if E (pc' := 48) rfl (by decide) (by omega) (by omega) ?_ ?_
      · intro hc2
        change pw_g gh0 26 4 ≤ (0 : Int) at hc2
        refine pw_vret E rfl ?_
        have hz := px_loopR (c := 26) (rk := rk) (h := gh0) (st := st) (Or.inl (by omega))
        exact ⟨I0, E0, ⟨hx0_0.symm.trans hz, by omega, hx0_2, hx0_3⟩, rfl⟩
      · intro hc3
        change ¬ (pw_g gh0 26 4 ≤ (0 : Int)) at hc3
        refine pw_ld E (pc' := 8) (st' := [.ref 42]) rfl (fun _ => rfl) ?_
        obtain ⟨f4l, f4h, -⟩ := pw_obj (c := 26) I0 rfl
        refine pw_call (m' := 53) (As := [.ref 42]) (rest := []) (ls'' := [some (.ref 42)]) (Nat.le_trans (by decide) hd) E rfl (fun _ => pw_iV rfl rfl rfl rfl (pw_cellI f4h rfl)) (rfl : pm_ent 53 = some (1, 1, 5, 0, pmc_53)) rfl rfl (cm_53_x26 (pw_dp hd (by decide)) I0 hXr) ?_
        rintro u6 v5 ⟨rfl, x7, rfl, hx7a, hx7b, hx7r⟩
        refine ⟨_, rfl, ?_⟩
        show pw X d gh0 52 11 [some (.ref 42), some (pw_i rk), some (.ref 46)] [pw_i x7] _
        change x7 = pt_tr (px_S 26 gh0) at hx7r
        refine pw_ld E (pc' := 12) (st' := [pw_i rk, pw_i x7]) rfl (fun _ => rfl) ?_
        refine pw_if2 E (pc' := 48) rfl (by decide) (by omega) (by omega) (by omega) (by omega) ?_ ?_
        · intro hc8
          change x7 < rk at hc8
          refine pw_vret E rfl ?_
          have hz := px_loopR (c := 26) (rk := rk) (h := gh0) (st := st) (Or.inr (by omega))
          exact ⟨I0, E0, ⟨hx0_0.symm.trans hz, by omega, hx0_2, hx0_3⟩, rfl⟩
        · intro hc9
          change ¬ (x7 < rk) at hc9
          refine pw_ld E (pc' := 16) (st' := [.ref 46]) rfl (fun _ => rfl) ?_
          refine pw_ld E (pc' := 17) (st' := [.ref 42, .ref 46]) rfl (fun _ => rfl) ?_
          refine pw_getI2 I0 E (c := 26) (k := 8) (pc' := 20) rfl rfl rfl rfl rfl rfl (fun hf10a hf10b => ?_)
          refine pw_ld E (pc' := 21) (st' := [.ref 42, pw_i (pw_g gh0 26 8), .ref 46]) rfl (fun _ => rfl) ?_
          refine pw_getR (b := 43) I0 E (c := 26) (k := 3) (pc' := 24) rfl rfl rfl rfl rfl rfl rfl ?_
          refine pw_ld E (pc' := 25) (st' := [.ref 42, .ref 43, pw_i (pw_g gh0 26 8), .ref 46]) rfl (fun _ => rfl) ?_
          refine pw_getI2 I0 E (c := 26) (k := 4) (pc' := 28) rfl rfl rfl rfl rfl rfl (fun hf11a hf11b => ?_)
          refine pw_ld E (pc' := 29) (st' := [pw_i 1, pw_i (pw_g gh0 26 4), .ref 43, pw_i (pw_g gh0 26 8), .ref 46]) rfl (fun _ => rfl) ?_
          refine pw_sub E (pc' := 30) rfl rfl ?_
          refine pw_ald2 I0 E (c := 27) (pc' := 31) rfl rfl rfl (by decide) rfl (by decide) (by omega) (by omega) rfl (fun hf12a hf12b => ?_)
          refine pw_ineg E (pc' := 32) rfl rfl ?_
          obtain ⟨f13l, f13h, -⟩ := pw_obj (c := 30) I0 rfl
          refine pw_call (m' := 71) (As := [.ref 46, pw_i (pw_g gh0 26 8), pw_i (-(pw_g gh0 27 (((pw_g gh0 26 4) - 1).toNat)))]) (rest := []) (ls'' := [some (.ref 46), some (pw_i (pw_g gh0 26 8)), some (pw_i (-(pw_g gh0 27 (((pw_g gh0 26 4) - 1).toNat))))]) (Nat.le_trans (by decide) hd) E rfl (fun _ => pw_iV rfl rfl rfl rfl (pw_cellI f13h rfl)) (rfl : pm_ent 71 = some (3, 3, 7, 4, pmc_71)) rfl rfl (cm_71_x (pw_dp hd (by decide)) I0 (pw_g gh0 26 8) (by omega) (by omega) (-(pw_g gh0 27 (((pw_g gh0 26 4) - 1).toNat))) (by omega) (by omega) (by omega)) ?_
          rintro h14 v15 ⟨h14I, h14E, hqem, rfl⟩
          refine ⟨_, rfl, ?_⟩
          have h14F := E0.tr (h14E.wk (W' := [26, 30, 33, 36]) (by first | rfl | simp))
          show pw X d h14 52 35 [some (.ref 42), some (pw_i rk), some (.ref 46)] [] _
          refine pw_ld E (pc' := 36) (st' := [.ref 42]) rfl (fun _ => rfl) ?_
          refine pw_ld E (pc' := 37) (st' := [.ref 42, .ref 42]) rfl (fun _ => rfl) ?_
          have he17 : pw_g h14 26 4 = pw_g gh0 26 4 := pw_Eg (c := 26) I0 h14E rfl rfl 4
          refine pw_getI2 h14I E (c := 26) (k := 4) (pc' := 40) rfl rfl rfl rfl rfl rfl (fun hf16a hf16b => ?_)
          refine pw_ld E (pc' := 41) (st' := [pw_i 1, pw_i (pw_g h14 26 4), .ref 42]) rfl (fun _ => rfl) ?_
          refine pw_sub E (pc' := 42) rfl rfl ?_
          refine pw_putI h14I E (c := 26) (k := 4) (pc' := 45) rfl rfl rfl rfl (by omega) (by omega) (by omega) (by omega) rfl rfl ?_
          intro h18I h18E
          generalize h18w : pw_w h14 26 4 (pw_i ((pw_g h14 26 4) - 1)) = h18 at h18I h18E ⊢
          have h18F := h14F.tr (h18E.wk (W' := [26, 30, 33, 36]) (by first | rfl | simp))
          have f4 : pw_g h14 26 4 = pw_g gh0 26 4 := pw_Eg (c := 26) I0 h14E rfl rfl 4
          have f5 : pw_g h18 26 4 = pw_g h14 26 4 - 1 := by rw [← h18w]; exact pw_g_eq (c := 26) (k := 4) h14I rfl rfl (by omega) (by omega)
          have f30 : pw_g h18 30 1 = pw_g h14 30 1 := by rw [← h18w]; exact pw_g_ne (by omega)
          have fK : ∀ k : Nat, k ≠ 4 → pw_g h18 26 k = pw_g h 26 k := fun k hk => by rw [← h18w, pw_g_ne (fun q => hk q.2.symm), pw_Eg (c := 26) I0 h14E rfl rfl k]; exact hx0_3 k hk
          have fw : ∀ j : Nat, pw_g h18 27 j = pw_g gh0 27 j := fun j => by rw [← h18w, pw_g_ne (by omega)]; exact pw_Eg (c := 27) I0 h14E rfl rfl j
          have f36 : ∀ j : Nat, pw_g h18 36 j = pw_g h14 36 j := fun j => by rw [← h18w]; exact pw_g_ne (by omega)
          have f33 : ∀ j : Nat, pw_g h18 33 j = pw_g h14 33 j := fun j => by rw [← h18w]; exact pw_g_ne (by omega)
          have hS := px_S1 (c := 26) (h := gh0) (by omega)
          have hS2 : px_S 26 h18 = px_st (pw_g gh0 27) (pw_g gh0 26 4 - 1).toNat := px_S.pop (c := 26) (h := gh0) (by omega) (by omega) fw hS
          have hC2 : px_C h18 st = -(pw_g gh0 27 (pw_g gh0 26 4 - 1).toNat) :: px_C gh0 st := (px_C.eq f30 f36).trans (px_C.em hqem (by omega) (by omega))
          have hPR : pt_rl rk (px_S 26 h18) (px_C h18 st) = pt_rl rk (px_S 26 h) (px_C h st) := by rw [← hx0_0, hS, hS2, hC2]; exact (pt_rl_ge (by rw [hS] at hx7r; have z : x7 = pt_rk (pw_g gh0 27 (pw_g gh0 26 4 - 1).toNat) := hx7r; omega)).symm
          have em1 := hqem.1
          have hBB : px_B 26 h h18 := (px_B.em (c := 26) hx0_2 e80 hqem).eq f30 f36 f33
          refine pw_goto E (pc' := 0) rfl (by decide) ?_
          exact ih0 _ (by omega)  h18 h18I h18F  hPR (by omega) hBB fK rfl
  exact L0 _  h I E0  rfl (by omega) (px_B.rf hp4) (fun _ _ => rfl) rfl
set_option maxHeartbeats 4000000 in
theorem cm_49_x26 {X : List (Nat × List Value)} {d : Nat} {h : pm_H} (hd : 2 ≤ d) (I : pw_I h) (st : Int) (hp0 : pw_g h 30 1 + pw_g h 26 4 ≤ 1000) (hp1 : 0 ≤ st) (hp2 : st ≤ pw_g h 30 1) (hp3 : pw_g h 33 (pw_g h 26 8).toNat = pw_g h 30 1) (hp4 : pw_g h 26 5 = px_dc (px_S 26 h)) (hp5 : pw_g h 26 5 ≤ 5) : pw X d h 49 0 [some (.ref 42), some (.ref 46)] [] (fun h' v => pw_I h' ∧ pw_E [26, 30, 33, 36] h h' ∧ (px_EP 26 st h h') ∧ (v = .inl none)) := by
  have E : pm_ent 49 = some (2, 2, 5, 4, pmc_49) := rfl
  have E0 : pw_E [26, 30, 33, 36] h h := pw_E.rf _ _
  have L0 : ∀ (n0 : Nat)  (gh0 : pm_H), pw_I gh0 → pw_E [26, 30, 33, 36] h gh0 → pt_ep (px_S 26 gh0) (pw_g gh0 26 5) (px_C gh0 st) = pt_ep (px_S 26 h) (pw_g h 26 5) (px_C h st) → pw_g gh0 30 1 + pw_g gh0 26 4 = pw_g h 30 1 + pw_g h 26 4 → px_B 26 h gh0 → ((∀ k : Nat, k ≠ 4 → k ≠ 5 → pw_g gh0 26 k = pw_g h 26 k)) → pw_g gh0 26 5 = px_dc (px_S 26 gh0) → pw_g gh0 26 5 ≤ 5 → (pw_g gh0 26 4).toNat = n0 → pw X d gh0 49 0 [some (.ref 42), some (.ref 46)] [] (fun h' v => pw_I h' ∧ pw_E [26, 30, 33, 36] h h' ∧ (px_EP 26 st h h') ∧ (v = .inl none)) := by
    intro n0
    induction n0 using Nat.strongRecOn with
    | ind n0 ih0 =>
      intro  gh0 I0 E0 hx0_0 hx0_1 hx0_2 hx0_3 hx0_4 hx0_5 hm0
      refine pw_ld E (pc' := 1) (st' := [.ref 42]) rfl (fun _ => rfl) ?_
      refine pw_getI2 I0 E (c := 26) (k := 4) (pc' := 4) rfl rfl rfl rfl rfl rfl (fun hf1a hf1b => ?_)
      have e80 := hx0_3 8 (by decide) (by decide)
      have hr4 := pw_gI (c := 26) (k := 4) I0 rfl rfl
      have hr1 := pw_gI (c := 30) (k := 1) I0 rfl rfl
      have hB1 := hx0_2.1
      have hd0 := px_dcB (px_S 26 gh0)
      refine pw_if E (pc' := 56) rfl (by decide) (by omega) (by omega) ?_ ?_
      · intro hc2
        change pw_g gh0 26 4 ≤ (0 : Int) at hc2
        refine pw_ld E (pc' := 57) (st' := [.ref 42]) rfl (fun _ => rfl) ?_
        refine pw_ld E (pc' := 58) (st' := [pw_i 3, .ref 42]) rfl (fun _ => rfl) ?_
        refine pw_putI I0 E (c := 26) (k := 7) (pc' := 61) rfl rfl rfl rfl (by omega) (by omega) (by omega) (by omega) rfl rfl ?_
        intro h3I h3E
        generalize h3w : pw_w gh0 26 7 (pw_i 3) = h3 at h3I h3E ⊢
        have h3F := E0.tr (h3E.wk (W' := [26, 30, 33, 36]) (by first | rfl | simp))
        have z7 : pw_g h3 26 7 = 3 := by rw [← h3w]; exact pw_g_eq (c := 26) (k := 7) I0 rfl rfl (by omega) (by omega)
        have zk : ∀ k : Nat, k ≠ 7 → pw_g h3 26 k = pw_g gh0 26 k := fun k hk => by rw [← h3w]; exact pw_g_ne (fun q => hk q.2.symm)
        have z4 := zk 4 (by decide)
        have z5 := zk 5 (by decide)
        have z30 : pw_g h3 30 1 = pw_g gh0 30 1 := by rw [← h3w]; exact pw_g_ne (by omega)
        have zS : px_S 26 h3 = px_S 26 gh0 := px_S.eq (c := 26) z4 (fun j => by rw [← h3w]; exact pw_g_ne (by omega))
        have zC : px_C h3 st = px_C gh0 st := px_C.eq z30 (fun j => by rw [← h3w]; exact pw_g_ne (by omega))
        have zB : px_B 26 h h3 := hx0_2.eq z30 (fun j => by rw [← h3w]; exact pw_g_ne (by omega)) (fun j => by rw [← h3w]; exact pw_g_ne (by omega))
        have hz : pt_ep (px_S 26 gh0) (pw_g gh0 26 5) (px_C gh0 st) = (px_S 26 gh0, pw_g gh0 26 5, px_C gh0 st) := by rw [px_S0 (by omega)]; rfl
        refine pw_vret E rfl ?_
        exact ⟨h3I, h3F, ⟨by rw [zS, zC, z5]; exact hx0_0.symm.trans hz, by omega, zB, z7, fun k k4 k5 k7 => (zk k k7).trans (hx0_3 k k4 k5)⟩, rfl⟩
      · intro hc4
        change ¬ (pw_g gh0 26 4 ≤ (0 : Int)) at hc4
        refine pw_ld E (pc' := 8) (st' := [.ref 42]) rfl (fun _ => rfl) ?_
        refine pw_getR (b := 43) I0 E (c := 26) (k := 3) (pc' := 11) rfl rfl rfl rfl rfl rfl rfl ?_
        refine pw_ld E (pc' := 12) (st' := [.ref 42, .ref 43]) rfl (fun _ => rfl) ?_
        refine pw_getI2 I0 E (c := 26) (k := 4) (pc' := 15) rfl rfl rfl rfl rfl rfl (fun hf5a hf5b => ?_)
        refine pw_ld E (pc' := 16) (st' := [pw_i 1, pw_i (pw_g gh0 26 4), .ref 43]) rfl (fun _ => rfl) ?_
        refine pw_sub E (pc' := 17) rfl rfl ?_
        refine pw_ald2 I0 E (c := 27) (pc' := 18) rfl rfl rfl (by decide) rfl (by decide) (by omega) (by omega) rfl (fun hf6a hf6b => ?_)
        refine pw_bip E (pc' := 20) rfl rfl (by decide) ?_
        refine pw_if2 E (pc' := 56) rfl (by decide) (by omega) (by omega) (by decide) (by decide) ?_ ?_
        · intro hc7
          change pw_g gh0 27 (((pw_g gh0 26 4) - 1).toNat) ≠ (8 : Int) at hc7
          refine pw_ld E (pc' := 57) (st' := [.ref 42]) rfl (fun _ => rfl) ?_
          refine pw_ld E (pc' := 58) (st' := [pw_i 3, .ref 42]) rfl (fun _ => rfl) ?_
          refine pw_putI I0 E (c := 26) (k := 7) (pc' := 61) rfl rfl rfl rfl (by omega) (by omega) (by omega) (by omega) rfl rfl ?_
          intro h8I h8E
          generalize h8w : pw_w gh0 26 7 (pw_i 3) = h8 at h8I h8E ⊢
          have h8F := E0.tr (h8E.wk (W' := [26, 30, 33, 36]) (by first | rfl | simp))
          have z7 : pw_g h8 26 7 = 3 := by rw [← h8w]; exact pw_g_eq (c := 26) (k := 7) I0 rfl rfl (by omega) (by omega)
          have zk : ∀ k : Nat, k ≠ 7 → pw_g h8 26 k = pw_g gh0 26 k := fun k hk => by rw [← h8w]; exact pw_g_ne (fun q => hk q.2.symm)
          have z4 := zk 4 (by decide)
          have z5 := zk 5 (by decide)
          have z30 : pw_g h8 30 1 = pw_g gh0 30 1 := by rw [← h8w]; exact pw_g_ne (by omega)
          have zS : px_S 26 h8 = px_S 26 gh0 := px_S.eq (c := 26) z4 (fun j => by rw [← h8w]; exact pw_g_ne (by omega))
          have zC : px_C h8 st = px_C gh0 st := px_C.eq z30 (fun j => by rw [← h8w]; exact pw_g_ne (by omega))
          have zB : px_B 26 h h8 := hx0_2.eq z30 (fun j => by rw [← h8w]; exact pw_g_ne (by omega)) (fun j => by rw [← h8w]; exact pw_g_ne (by omega))
          have hz : pt_ep (px_S 26 gh0) (pw_g gh0 26 5) (px_C gh0 st) = (px_S 26 gh0, pw_g gh0 26 5, px_C gh0 st) := by rw [px_S1 (c := 26) (by omega)]; exact if_neg (by omega)
          refine pw_vret E rfl ?_
          exact ⟨h8I, h8F, ⟨by rw [zS, zC, z5]; exact hx0_0.symm.trans hz, by omega, zB, z7, fun k k4 k5 k7 => (zk k k7).trans (hx0_3 k k4 k5)⟩, rfl⟩
        · intro hc9
          change ¬ (pw_g gh0 27 (((pw_g gh0 26 4) - 1).toNat) ≠ (8 : Int)) at hc9
          refine pw_ld E (pc' := 24) (st' := [.ref 46]) rfl (fun _ => rfl) ?_
          refine pw_ld E (pc' := 25) (st' := [.ref 42, .ref 46]) rfl (fun _ => rfl) ?_
          refine pw_getI2 I0 E (c := 26) (k := 8) (pc' := 28) rfl rfl rfl rfl rfl rfl (fun hf10a hf10b => ?_)
          refine pw_bip E (pc' := 30) rfl rfl (by decide) ?_
          have hS := px_S1 (c := 26) (h := gh0) (by omega)
          have hS : px_S 26 gh0 = 8 :: px_st (pw_g gh0 27) (pw_g gh0 26 4 - 1).toNat := by rw [hS, show pw_g gh0 27 (pw_g gh0 26 4 - 1).toNat = 8 by omega]
          have hdc := hx0_4
          rw [hS] at hdc
          have hdc2 : pw_g gh0 26 5 = px_dc (px_st (pw_g gh0 27) (pw_g gh0 26 4 - 1).toNat) + 1 := hdc
          have hd1 := px_dcB (px_st (pw_g gh0 27) (pw_g gh0 26 4 - 1).toNat)
          obtain ⟨f11l, f11h, -⟩ := pw_obj (c := 30) I0 rfl
          refine pw_call (m' := 71) (As := [.ref 46, pw_i (pw_g gh0 26 8), pw_i ((-8))]) (rest := []) (ls'' := [some (.ref 46), some (pw_i (pw_g gh0 26 8)), some (pw_i ((-8)))]) (Nat.le_trans (by decide) hd) E rfl (fun _ => pw_iV rfl rfl rfl rfl (pw_cellI f11h rfl)) (rfl : pm_ent 71 = some (3, 3, 7, 4, pmc_71)) rfl rfl (cm_71_x (pw_dp hd (by decide)) I0 (pw_g gh0 26 8) (by omega) (by omega) ((-8)) (by omega) (by omega) (by omega)) ?_
          rintro h12 v13 ⟨h12I, h12E, hqem, rfl⟩
          refine ⟨_, rfl, ?_⟩
          have h12F := E0.tr (h12E.wk (W' := [26, 30, 33, 36]) (by first | rfl | simp))
          show pw X d h12 49 33 [some (.ref 42), some (.ref 46)] [] _
          refine pw_ld E (pc' := 34) (st' := [.ref 42]) rfl (fun _ => rfl) ?_
          refine pw_ld E (pc' := 35) (st' := [.ref 42, .ref 42]) rfl (fun _ => rfl) ?_
          have he15 : pw_g h12 26 4 = pw_g gh0 26 4 := pw_Eg (c := 26) I0 h12E rfl rfl 4
          refine pw_getI2 h12I E (c := 26) (k := 4) (pc' := 38) rfl rfl rfl rfl rfl rfl (fun hf14a hf14b => ?_)
          refine pw_ld E (pc' := 39) (st' := [pw_i 1, pw_i (pw_g h12 26 4), .ref 42]) rfl (fun _ => rfl) ?_
          refine pw_sub E (pc' := 40) rfl rfl ?_
          refine pw_putI h12I E (c := 26) (k := 4) (pc' := 43) rfl rfl rfl rfl (by omega) (by omega) (by omega) (by omega) rfl rfl ?_
          intro h16I h16E
          generalize h16w : pw_w h12 26 4 (pw_i ((pw_g h12 26 4) - 1)) = h16 at h16I h16E ⊢
          have h16F := h12F.tr (h16E.wk (W' := [26, 30, 33, 36]) (by first | rfl | simp))
          have f4 : pw_g h12 26 4 = pw_g gh0 26 4 := pw_Eg (c := 26) I0 h12E rfl rfl 4
          have d5a : pw_g h12 26 5 = pw_g gh0 26 5 := pw_Eg (c := 26) I0 h12E rfl rfl 5
          have d5b : pw_g h16 26 5 = pw_g h12 26 5 := by rw [← h16w]; exact pw_g_ne (by omega)
          have f5 : pw_g h16 26 4 = pw_g h12 26 4 - 1 := by rw [← h16w]; exact pw_g_eq (c := 26) (k := 4) h12I rfl rfl (by omega) (by omega)
          refine pw_ld E (pc' := 44) (st' := [.ref 42]) rfl (fun _ => rfl) ?_
          refine pw_ld E (pc' := 45) (st' := [.ref 42, .ref 42]) rfl (fun _ => rfl) ?_
          refine pw_getI2 h16I E (c := 26) (k := 5) (pc' := 48) rfl rfl rfl rfl rfl rfl (fun hf17a hf17b => ?_)
          refine pw_ld E (pc' := 49) (st' := [pw_i 1, pw_i (pw_g h16 26 5), .ref 42]) rfl (fun _ => rfl) ?_
          refine pw_sub E (pc' := 50) rfl rfl ?_
          refine pw_putI h16I E (c := 26) (k := 5) (pc' := 53) rfl rfl rfl rfl (by omega) (by omega) (by omega) (by omega) rfl rfl ?_
          intro h18I h18E
          generalize h18w : pw_w h16 26 5 (pw_i ((pw_g h16 26 5) - 1)) = h18 at h18I h18E ⊢
          have h18F := h16F.tr (h18E.wk (W' := [26, 30, 33, 36]) (by first | rfl | simp))
          have d5c : pw_g h18 26 5 = pw_g h16 26 5 - 1 := by rw [← h18w]; exact pw_g_eq (c := 26) (k := 5) h16I rfl rfl (by omega) (by omega)
          have f6 : pw_g h18 26 4 = pw_g h16 26 4 := by rw [← h18w]; exact pw_g_ne (by omega)
          have f30 : pw_g h18 30 1 = pw_g h12 30 1 := by rw [← h18w, pw_g_ne (by omega), ← h16w]; exact pw_g_ne (by omega)
          have fK : ∀ k : Nat, k ≠ 4 → k ≠ 5 → pw_g h18 26 k = pw_g h 26 k := fun k hk hk5 => by rw [← h18w, pw_g_ne (fun q => hk5 q.2.symm), ← h16w, pw_g_ne (fun q => hk q.2.symm), pw_Eg (c := 26) I0 h12E rfl rfl k]; exact hx0_3 k hk hk5
          have fw : ∀ j : Nat, pw_g h18 27 j = pw_g gh0 27 j := fun j => by rw [← h18w, pw_g_ne (by omega), ← h16w, pw_g_ne (by omega)]; exact pw_Eg (c := 27) I0 h12E rfl rfl j
          have f36 : ∀ j : Nat, pw_g h18 36 j = pw_g h12 36 j := fun j => by rw [← h18w, pw_g_ne (by omega), ← h16w]; exact pw_g_ne (by omega)
          have f33 : ∀ j : Nat, pw_g h18 33 j = pw_g h12 33 j := fun j => by rw [← h18w, pw_g_ne (by omega), ← h16w]; exact pw_g_ne (by omega)
          have hS2 : px_S 26 h18 = px_st (pw_g gh0 27) (pw_g gh0 26 4 - 1).toNat := px_S.pop (c := 26) (h := gh0) (by omega) (by omega) fw hS
          have hC2 : px_C h18 st = -8 :: px_C gh0 st := (px_C.eq f30 f36).trans (px_C.em hqem (by omega) (by omega))
          have hPR : pt_ep (px_S 26 h18) (pw_g h18 26 5) (px_C h18 st) = pt_ep (px_S 26 h) (pw_g h 26 5) (px_C h st) := by rw [← hx0_0, hS, hS2, hC2, show pw_g h18 26 5 = pw_g gh0 26 5 - 1 by omega]; exact (if_pos rfl : pt_ep (8 :: _) _ _ = _).symm
          have em1 := hqem.1
          have hBB : px_B 26 h h18 := (px_B.em (c := 26) hx0_2 e80 hqem).eq f30 f36 f33
          have hDC : pw_g h18 26 5 = px_dc (px_S 26 h18) := by rw [hS2]; omega
          refine pw_goto E (pc' := 0) rfl (by decide) ?_
          exact ih0 _ (by omega)  h18 h18I h18F  hPR (by omega) hBB fK hDC (by omega) rfl
  exact L0 _  h I E0  rfl (by omega) (px_B.rf hp3) (fun _ _ _ => rfl) hp4 (by omega) rfl
end
section
/-! texts: the class's Tokens -/
def px_TW (h h' : pm_H) : Prop := pw_g h' 24 1 = pw_g h 24 1 ∧ pw_g h' 24 2 = pw_g h 24 2 ∧ pw_g h 24 3 < pw_g h' 24 3 ∧ pw_g h' 24 3 ≤ pw_g h 24 1 ∧ (∀ j : Nat, (pw_g h 24 3).toNat ≤ j → j < (pw_g h' 24 3).toNat → pt_le (pw_g h 25 j)) ∧ (pw_g h' 24 3 < pw_g h 24 1 → ¬ pt_le (pw_g h 25 (pw_g h' 24 3).toNat)) ∧ (8 < pw_g h' 24 3 - pw_g h 24 2 → pw_g h' 24 4 = 0) ∧ (pw_g h' 24 3 - pw_g h 24 2 ≤ 8 → pw_g h' 24 4 = 1)
def px_TN (h h' : pm_H) : Prop := pw_g h' 24 1 = pw_g h 24 1 ∧ pw_g h' 24 2 = pw_g h 24 2 ∧ pw_g h 24 3 < pw_g h' 24 3 ∧ pw_g h' 24 3 ≤ pw_g h 24 1 ∧ (∀ j : Nat, (pw_g h 24 3).toNat ≤ j → j < (pw_g h' 24 3).toNat → pt_di (pw_g h 25 j)) ∧ (pw_g h' 24 3 < pw_g h 24 1 → ¬ pt_di (pw_g h 25 (pw_g h' 24 3).toNat)) ∧ (4 < pw_g h' 24 3 - pw_g h 24 2 → pw_g h' 24 4 = 0) ∧ (pw_g h' 24 3 - pw_g h 24 2 ≤ 4 → pw_g h' 24 4 = 2 ∧ pw_g h' 24 5 = pt_hd (pw_g h 25) (pw_g h 24 2).toNat (pw_g h' 24 3 - pw_g h 24 2).toNat)
/-- the next token, or none -/
def px_AD (h h' : pm_H) : Prop := pw_g h' 24 1 = pw_g h 24 1 ∧ (((∀ j : Nat, (pw_g h 24 3).toNat ≤ j → j < (pw_g h 24 1).toNat → pt_bl (pw_g h 25 j)) ∧ pw_g h' 24 4 = 4 ∧ pw_g h' 24 2 = pw_g h 24 1 ∧ pw_g h' 24 3 = pw_g h 24 1) ∨
  ∃ t : pt_tok, ((pw_g h 24 3).toNat ≤ t.1 ∧ ∀ j : Nat, (pw_g h 24 3).toNat ≤ j → j < t.1 → pt_bl (pw_g h 25 j)) ∧ pt_ta (pw_g h 25) (pw_g h 24 1).toNat t ∧ pw_g h' 24 2 = t.1 ∧ pw_g h' 24 3 = t.2.1 ∧ (t.2.2.1 ≠ 4 → pw_g h' 24 4 = t.2.2.1) ∧ (t.2.2.1 = 4 → pw_g h' 24 4 = 0) ∧ (t.2.2.1 = 2 ∨ t.2.2.1 = 3 → pw_g h' 24 5 = t.2.2.2))
theorem px_AD.st {h h' : pm_H} {L : List pt_tok} (H : px_AD h h') (S : pt_sg (pw_g h 25) (pw_g h 24 1).toNat (pw_g h 24 3).toNat L (pw_g h 24 1).toNat) : (L = [] ∧ pw_g h' 24 4 = 4 ∧ pw_g h' 24 2 = pw_g h 24 1 ∧ pw_g h' 24 3 = pw_g h 24 1) ∨ ∃ (t : pt_tok) (L' : List pt_tok), L = t :: L' ∧ pt_ta (pw_g h 25) (pw_g h 24 1).toNat t ∧ pw_g h' 24 2 = t.1 ∧ pw_g h' 24 3 = t.2.1 ∧ (t.2.2.1 ≠ 4 → pw_g h' 24 4 = t.2.2.1) ∧ (t.2.2.1 = 4 → pw_g h' 24 4 = 0) ∧ (t.2.2.1 = 2 ∨ t.2.2.1 = 3 → pw_g h' 24 5 = t.2.2.2) ∧ pt_sg (pw_g h 25) (pw_g h 24 1).toNat t.2.1 L' (pw_g h 24 1).toNat := by
  cases L with
  | nil =>
    rcases H.2 with ⟨-, a⟩ | ⟨t, a, b, -⟩
    · exact Or.inl ⟨rfl, a⟩
    · exact absurd (S.2 t.1 a.1 (Nat.lt_of_lt_of_le b.1 b.2.1)) b.nb
  | cons u L' =>
    rcases H.2 with ⟨a, -⟩ | ⟨t, a, b, c⟩
    · exact absurd (a u.1 S.1.1 (Nat.lt_of_lt_of_le S.2.1.1 S.2.1.2.1)) S.2.1.nb
    · have e : t.1 = u.1 := by
        rcases (by omega : t.1 < u.1 ∨ u.1 < t.1 ∨ t.1 = u.1) with q | q | q
        · exact absurd (S.1.2 t.1 a.1 q) b.nb
        · exact absurd (a.2 u.1 S.1.1 q) S.2.1.nb
        · exact q
      have e2 := b.eq S.2.1 e
      subst e2
      exact Or.inr ⟨t, L', rfl, b, c.1, c.2.1, c.2.2.1, c.2.2.2.1, c.2.2.2.2, S.2.2⟩
/-- a word's end, a numeral's, a sign's: the token -/
theorem px_TW.ta {h h' : pm_H} (H : px_TW h h') (e1 : pw_g h 24 2 = pw_g h 24 3) (s0 : 0 ≤ pw_g h 24 3) : pt_ta (pw_g h 25) (pw_g h 24 1).toNat ((pw_g h 24 2).toNat, (pw_g h' 24 3).toNat, (if pw_g h' 24 3 - pw_g h 24 2 ≤ 8 then (1 : Int) else 4), pt_hw (pw_g h 25) (pw_g h 24 2).toNat (min 8 ((pw_g h' 24 3).toNat - (pw_g h 24 2).toNat))) := by
  obtain ⟨a1, a2, a3, a4, a5, a6, a7, a8⟩ := H
  refine pt_taW (by omega) (by omega) (fun j p q => a5 j (by omega) q) (fun q => a6 (by omega)) (fun q => if_neg (by omega)) (fun q => if_pos (by omega)) rfl
theorem px_TN.ta {h h' : pm_H} (H : px_TN h h') (e1 : pw_g h 24 2 = pw_g h 24 3) (s0 : 0 ≤ pw_g h 24 3) : pt_ta (pw_g h 25) (pw_g h 24 1).toNat ((pw_g h 24 2).toNat, (pw_g h' 24 3).toNat, (if pw_g h' 24 3 - pw_g h 24 2 ≤ 4 then (2 : Int) else 4), pt_hd (pw_g h 25) (pw_g h 24 2).toNat (min 4 ((pw_g h' 24 3).toNat - (pw_g h 24 2).toNat))) := by
  obtain ⟨a1, a2, a3, a4, a5, a6, a7, a8⟩ := H
  refine pt_taN (by omega) (by omega) (fun j p q => a5 j (by omega) q) (fun q => a6 (by omega)) (fun q => if_neg (by omega)) (fun q => if_pos (by omega)) rfl
theorem px_nmE {X : List (Nat × List Value)} {d : Nat} {h : pm_H} {m pc : Nat} {ls : pm_L} {r : List Value} {Q : pm_H → (Option Value ⊕ Unit) → Prop} {a : Int} (H : ∀ b : Int, -2147483648 ≤ b → b ≤ 2147483647 → ((a < -2147483648 ∨ 2147483647 < a) ∨ b = a) → pw X d h m pc ls (pw_i b :: r) Q) : pw X d h m pc ls (pw_i a :: r) Q := by
  by_cases hr : a < -2147483648 ∨ 2147483647 < a
  · exact pw_nm (fun b h1 h2 => H b h1 h2 (Or.inl hr))
  · exact H a (by omega) (by omega) (Or.inr rfl)
theorem px_AD.w {h H h' : pm_H} (T : px_TW H h') (hT : pw_g H 25 = pw_g h 25) (e1 : pw_g H 24 1 = pw_g h 24 1) (e3 : pw_g H 24 2 = pw_g H 24 3) (s0 : pw_g h 24 3 ≤ pw_g H 24 2) (z0 : 0 ≤ pw_g h 24 3) (bl : ∀ j : Nat, (pw_g h 24 3).toNat ≤ j → j < (pw_g H 24 2).toNat → pt_bl (pw_g h 25 j)) : px_AD h h' := by
  have ta := T.ta e3 (by omega)
  rw [hT, e1] at ta
  obtain ⟨a1, a2, a3, a4, a5, a6, a7, a8⟩ := T
  refine ⟨by omega, Or.inr ⟨_, ⟨?_, fun j p q => bl j p q⟩, ta, ?_, ?_, ?_, ?_, ?_⟩⟩
  · show (pw_g h 24 3).toNat ≤ (pw_g H 24 2).toNat
    omega
  · show pw_g h' 24 2 = (((pw_g H 24 2).toNat : Nat) : Int)
    omega
  · show pw_g h' 24 3 = (((pw_g h' 24 3).toNat : Nat) : Int)
    omega
  · show (if pw_g h' 24 3 - pw_g H 24 2 ≤ 8 then (1 : Int) else 4) ≠ 4 → pw_g h' 24 4 = if pw_g h' 24 3 - pw_g H 24 2 ≤ 8 then (1 : Int) else 4
    intro q
    by_cases c : pw_g h' 24 3 - pw_g H 24 2 ≤ 8
    · rw [if_pos c]; exact a8 c
    · rw [if_neg c] at q; exact absurd rfl q
  · show (if pw_g h' 24 3 - pw_g H 24 2 ≤ 8 then (1 : Int) else 4) = 4 → pw_g h' 24 4 = 0
    intro q
    by_cases c : pw_g h' 24 3 - pw_g H 24 2 ≤ 8
    · rw [if_pos c] at q; exact absurd q (by decide)
    · exact a7 (by omega)
  · show (if pw_g h' 24 3 - pw_g H 24 2 ≤ 8 then (1 : Int) else 4) = 2 ∨ (if pw_g h' 24 3 - pw_g H 24 2 ≤ 8 then (1 : Int) else 4) = 3 → _
    intro q
    exfalso
    by_cases c : pw_g h' 24 3 - pw_g H 24 2 ≤ 8
    · rw [if_pos c] at q; exact absurd q (by decide)
    · rw [if_neg c] at q; exact absurd q (by decide)
theorem px_AD.n {h H h' : pm_H} (T : px_TN H h') (hT : pw_g H 25 = pw_g h 25) (e1 : pw_g H 24 1 = pw_g h 24 1) (e3 : pw_g H 24 2 = pw_g H 24 3) (s0 : pw_g h 24 3 ≤ pw_g H 24 2) (z0 : 0 ≤ pw_g h 24 3) (bl : ∀ j : Nat, (pw_g h 24 3).toNat ≤ j → j < (pw_g H 24 2).toNat → pt_bl (pw_g h 25 j)) : px_AD h h' := by
  have ta := T.ta e3 (by omega)
  obtain ⟨a1, a2, a3, a4, a5, a6, a7, a8⟩ := T
  rw [hT] at a8
  rw [hT, e1] at ta
  refine ⟨by omega, Or.inr ⟨_, ⟨?_, fun j p q => bl j p q⟩, ta, ?_, ?_, ?_, ?_, ?_⟩⟩
  · show (pw_g h 24 3).toNat ≤ (pw_g H 24 2).toNat
    omega
  · show pw_g h' 24 2 = (((pw_g H 24 2).toNat : Nat) : Int)
    omega
  · show pw_g h' 24 3 = (((pw_g h' 24 3).toNat : Nat) : Int)
    omega
  · show (if pw_g h' 24 3 - pw_g H 24 2 ≤ 4 then (2 : Int) else 4) ≠ 4 → pw_g h' 24 4 = if pw_g h' 24 3 - pw_g H 24 2 ≤ 4 then (2 : Int) else 4
    intro q
    by_cases c : pw_g h' 24 3 - pw_g H 24 2 ≤ 4
    · rw [if_pos c]; exact (a8 c).1
    · rw [if_neg c] at q; exact absurd rfl q
  · show (if pw_g h' 24 3 - pw_g H 24 2 ≤ 4 then (2 : Int) else 4) = 4 → pw_g h' 24 4 = 0
    intro q
    by_cases c : pw_g h' 24 3 - pw_g H 24 2 ≤ 4
    · rw [if_pos c] at q; exact absurd q (by decide)
    · exact a7 (by omega)
  · show (if pw_g h' 24 3 - pw_g H 24 2 ≤ 4 then (2 : Int) else 4) = 2 ∨ (if pw_g h' 24 3 - pw_g H 24 2 ≤ 4 then (2 : Int) else 4) = 3 → pw_g h' 24 5 = pt_hd (pw_g h 25) (pw_g H 24 2).toNat (min 4 ((pw_g h' 24 3).toNat - (pw_g H 24 2).toNat))
    intro q
    by_cases c : pw_g h' 24 3 - pw_g H 24 2 ≤ 4
    · rw [(a8 c).2, show (pw_g h' 24 3 - pw_g H 24 2).toNat = min 4 ((pw_g h' 24 3).toNat - (pw_g H 24 2).toNat) by omega]
    · rw [if_neg c] at q; exact absurd q (by decide)
theorem px_AD.s {h h' : pm_H} {s : Int} (e1 : pw_g h' 24 1 = pw_g h 24 1) (e2 : pw_g h' 24 2 = s) (e3 : pw_g h' 24 3 = s + 1) (lt : s < pw_g h 24 1) (s0 : pw_g h 24 3 ≤ s) (z0 : 0 ≤ pw_g h 24 3) (bl : ∀ j : Nat, (pw_g h 24 3).toNat ≤ j → j < s.toNat → pt_bl (pw_g h 25 j)) (nb : ¬ pt_bl (pw_g h 25 s.toNat)) (nl : ¬ pt_le (pw_g h 25 s.toNat)) (nd : ¬ pt_di (pw_g h 25 s.toNat)) (kd : (pt_si (pw_g h 25 s.toNat) ∧ pw_g h' 24 4 = 3) ∨ (¬ pt_si (pw_g h 25 s.toNat) ∧ pw_g h' 24 4 = 0)) (v : pw_g h' 24 5 = pw_g h 25 s.toNat) : px_AD h h' := by
  rcases kd with ⟨q, k⟩ | ⟨q, k⟩
  · refine ⟨e1, Or.inr ⟨(s.toNat, s.toNat + 1, 3, pw_g h 25 s.toNat), ⟨?_, fun j p q => bl j p q⟩, pt_taS rfl (by omega) nb nl nd (fun _ => rfl) (fun z => absurd q z) rfl, ?_, ?_, fun _ => k, fun z => absurd (show (3 : Int) = 4 from z) (by decide), fun _ => v⟩⟩
    · show (pw_g h 24 3).toNat ≤ s.toNat
      omega
    · show pw_g h' 24 2 = ((s.toNat : Nat) : Int)
      omega
    · show pw_g h' 24 3 = ((s.toNat + 1 : Nat) : Int)
      omega
  · refine ⟨e1, Or.inr ⟨(s.toNat, s.toNat + 1, 4, pw_g h 25 s.toNat), ⟨?_, fun j p q => bl j p q⟩, pt_taS rfl (by omega) nb nl nd (fun z => absurd z q) (fun _ => rfl) rfl, ?_, ?_, fun z => absurd rfl z, fun _ => k, fun z => absurd (show (4 : Int) = 2 ∨ (4 : Int) = 3 from z) (by decide)⟩⟩
    · show (pw_g h 24 3).toNat ≤ s.toNat
      omega
    · show pw_g h' 24 2 = ((s.toNat : Nat) : Int)
      omega
    · show pw_g h' 24 3 = ((s.toNat + 1 : Nat) : Int)
      omega
end
section
/-! texts: the class's constant strings -/
/-- the strings are those of the start -/
def pw_Xs (X : List (Nat × List Value)) : Prop := ∀ p : Nat, 4 ≤ p → p < 12 → X[p]? = pw_X0[p]?
theorem pw_Xs0 (xs : List Int32) : pw_Xs (pm_ext xs) := by
  intro p h1 h2
  rcases (by omega : p = 4 ∨ p = 5 ∨ p = 6 ∨ p = 7 ∨ p = 8 ∨ p = 9 ∨ p = 10 ∨ p = 11) with rfl | rfl | rfl | rfl | rfl | rfl | rfl | rfl <;> rfl
theorem px_sx {X : List (Nat × List Value)} {p : Nat} (hS : pw_Xs X) (h1 : 4 ≤ p) (h2 : p < 12) : pm_sx X p = pm_sx pw_X0 p := by
  unfold pm_sx
  rw [pm_nth_eq, pm_nth_eq, hS p h1 h2]
noncomputable def px_ix (l : List Value) (z : Int) : Int32 := if Int32.ofInt z < 0 ∨ (255 : Int32) < Int32.ofInt z then -1 else pm_ixF (Int32.ofInt z).toInt8.toInt32 l 0
noncomputable def px_s8b : Bool := match pm_sx pw_X0 8 with
  | some l => (List.range 256).all (fun n => (decide (-1 ≤ (px_ix l (n : Int)).toInt) && decide ((px_ix l (n : Int)).toInt ≤ 60)) && (decide (0 ≤ (px_ix l (n : Int)).toInt) == decide ((n : Int) = 40 ∨ (n : Int) = 41 ∨ (n : Int) = 59 ∨ (n : Int) = 61 ∨ (n : Int) = 60 ∨ (n : Int) = 43 ∨ (n : Int) = 45 ∨ (n : Int) = 42)))
  | none => false
theorem px_s8ok : px_s8b = true := by decide +kernel
theorem px_s8 : ∃ l, pm_sx pw_X0 8 = some l ∧ ∀ z : Int, 0 ≤ z → z ≤ 255 → -1 ≤ (px_ix l z).toInt ∧ (px_ix l z).toInt ≤ 60 ∧ ((0 ≤ (px_ix l z).toInt ∧ pt_si z) ∨ ((px_ix l z).toInt = -1 ∧ ¬ pt_si z)) := by
  have h := px_s8ok
  unfold px_s8b at h
  split at h
  · rename_i l hl
    refine ⟨l, hl, fun z h0 h1 => ?_⟩
    rw [List.all_eq_true] at h
    have a := h z.toNat (List.mem_range.mpr (by omega))
    rw [Int.toNat_of_nonneg h0, Bool.and_eq_true, Bool.and_eq_true, decide_eq_true_iff, decide_eq_true_iff, beq_iff_eq] at a
    obtain ⟨⟨a1, a2⟩, a3⟩ := a
    refine ⟨a1, a2, ?_⟩
    by_cases q : 0 ≤ (px_ix l z).toInt
    · rw [decide_eq_true q] at a3
      have w := of_decide_eq_true a3.symm
      exact Or.inl ⟨q, w⟩
    · rw [decide_eq_false q] at a3
      have w := of_decide_eq_false a3.symm
      exact Or.inr ⟨by omega, w⟩
  · cases h
section Pu
variable {X : List (Nat × List Value)} {d : Nat} {h : pm_H} {m pc len na nl own rt : Nat} {C : pm_T (Instr × Nat)} {ls : pm_L} {r : List Value} {Q : pm_H → (Option Value ⊕ Unit) → Prop}
theorem pw_sidxE {ix : Nat} {z : Int} (he : pm_ent m = some (na, nl, own, rt, C)) (hq : pm_get C pc = some (.invokevirtual ix, len)) (hl : pm_get (pm_lnk own) ix = some (15, 9, 0, 0)) (hS : pw_Xs X) (z0 : 0 ≤ z) (z1 : z ≤ 65535) (h8 : pm_cat8 (pw_i 0 :: r) = true) (H : ∀ x : Int, -1 ≤ x → x ≤ 60 → ((0 ≤ x ∧ pt_si z) ∨ (x = -1 ∧ ¬ pt_si z)) → pw X d h m (pc + 3) ls (pw_i x :: r) Q) : pw X d h m pc ls (pw_i z :: .ref 8 :: r) Q := by
  obtain ⟨l, hs, hx⟩ := px_s8
  rw [← px_sx hS (by decide) (by decide)] at hs
  have e255 : (255 : Int32).toInt = 255 := by decide
  obtain ⟨a1, a2, a3⟩ : -1 ≤ (px_ix l z).toInt ∧ (px_ix l z).toInt ≤ 60 ∧ ((0 ≤ (px_ix l z).toInt ∧ pt_si z) ∨ ((px_ix l z).toInt = -1 ∧ ¬ pt_si z)) := by
    by_cases q : z ≤ 255
    · exact hx z z0 q
    · have e : px_ix l z = -1 := if_pos (Or.inr (by rw [Int32.lt_iff_toInt_lt, pw_toInt (by omega) (by omega), e255]; omega))
      have e1 : (px_ix l z).toInt = -1 := by rw [e]; decide
      exact ⟨by omega, by omega, Or.inr ⟨e1, fun w => by unfold pt_si at w; omega⟩⟩
  have e : pw_i (px_ix l z).toInt = Value.int (px_ix l z) := by unfold pw_i; rw [Int32.ofInt_toInt]
  have K := H _ a1 a2 a3
  rw [e] at K
  refine pw_ld he hq (fun ih => ?_) K
  refine (pw_str0 (len := len) hl).trans ?_
  show (match pm_sx X 8 with
    | some l => cond (pm_cat8 (.int (px_ix l z) :: r)) (pm_fn (pc + 3) fun q => ih d h m q ls (.int (px_ix l z) :: r)) none
    | none => none) = _
  rw [hs]
  show cond (pm_cat8 (.int (px_ix l z) :: r)) (pm_fn (pc + 3) fun q => ih d h m q ls (.int (px_ix l z) :: r)) none = _
  have h8' : pm_cat8 (.int (px_ix l z) :: r) = true := h8
  rw [h8', cond_true, pm_fn_eq]
/-- a character of a constant string -/
def px_cv (v : Value) : Int := match v with
  | .int x => (x &&& 255).toInt
  | _ => 0
theorem pw_schrE {ix p : Nat} {l : List Value} {j : Int} (he : pm_ent m = some (na, nl, own, rt, C)) (hq : pm_get C pc = some (.invokevirtual ix, len)) (hl : pm_get (pm_lnk own) ix = some (15, 8, 0, 0)) (hs : pm_sx X p = some l) (hi : pw_ints l) (hn : l.length ≤ 60) (h0 : 0 ≤ j) (h1 : j < l.length) (h8 : pm_cat8 (pw_i 0 :: r) = true) (H : ∀ x : Int, 0 ≤ x → x ≤ 255 → (l.map px_cv)[j.toNat]? = some x → pw X d h m (pc + 3) ls (pw_i x :: r) Q) : pw X d h m pc ls (pw_i j :: .ref p :: r) Q := by
  have hlt : j.toNat < l.length := by omega
  obtain ⟨y, hy⟩ := hi j.toNat _ (List.getElem?_eq_getElem hlt)
  obtain ⟨b, b1, b2, b3⟩ := pw_and255 y
  have hb : (l.map px_cv)[j.toNat]? = some b := by
    rw [List.getElem?_map, List.getElem?_eq_getElem hlt, hy]
    show some ((y &&& 255).toInt) = some b
    have e : (y &&& 255) = Int32.ofInt b := by
      unfold pw_i at b3
      exact Value.int.inj b3
    rw [e, pw_toInt (by omega) (by omega)]
  refine pw_ld he hq (st' := .int (y &&& 255) :: r) (pc' := pc + 3) (fun ih => ?_) (by rw [b3]; exact H b b1 b2 hb)
  refine (pw_str0 (len := len) hl).trans ?_
  show (match pm_sx X p with
    | some l => cond (decide (Int32.ofInt j < 0)) none (match pm_nth l (Int32.ofInt j).toNatClampNeg with
      | some (.int x) => cond (pm_cat8 (.int (x &&& 255) :: r)) (pm_fn (pc + 3) fun q => ih d h m q ls (.int (x &&& 255) :: r)) none
      | _ => none)
    | none => none) = _
  rw [hs]
  show cond (decide (Int32.ofInt j < 0)) none (match pm_nth l (Int32.ofInt j).toNatClampNeg with
      | some (.int x) => cond (pm_cat8 (.int (x &&& 255) :: r)) (pm_fn (pc + 3) fun q => ih d h m q ls (.int (x &&& 255) :: r)) none
      | _ => none) = _
  rw [decide_eq_false (pw_neg h0 (by omega)), cond_false, pw_clamp h0 (by omega), pm_nth_eq, List.getElem?_eq_getElem hlt, hy]
  show cond (pm_cat8 (.int (y &&& 255) :: r)) (pm_fn (pc + 3) fun q => ih d h m q ls (.int (y &&& 255) :: r)) none = _
  have h8' : pm_cat8 (.int (y &&& 255) :: r) = true := h8
  rw [h8', cond_true, pm_fn_eq]
end Pu
/-- the number of a word in a list: what is still to come of the list, how many are behind, how far the word fits -/
def px_wa (T : Nat → Int) (s e k0 : Int) : List Int → Int → Int → Int → Int
  | [], _, _, _ => -1
  | c :: r, n, a, b => if c ≠ 32 then px_wa T s e k0 r n (a + 1) (if b ≠ 0 ∧ a < e ∧ T a.toNat = c then 1 else 0) else if b ≠ 0 ∧ a = e then n else px_wa T s e k0 r (n + 1) s k0
/-- one word of the list -/
theorem px_wa_w {T : Nat → Int} {s e k0 n : Int} {r : List Int} : ∀ (w : List Int) (a b : Int), (∀ c ∈ w, c ≠ 32) → px_wa T s e k0 (w ++ 32 :: r) n a b = if b ≠ 0 ∧ a + w.length = e ∧ ∀ j : Nat, j < w.length → T (a + j).toNat = w.getD j 0 then n else px_wa T s e k0 r (n + 1) s k0 := by
  intro w
  induction w with
  | nil =>
    intro a b _
    show (if (32 : Int) ≠ 32 then _ else if b ≠ 0 ∧ a = e then n else px_wa T s e k0 r (n + 1) s k0) = _
    rw [if_neg (fun q => q rfl)]
    by_cases q : b ≠ 0 ∧ a = e
    · rw [if_pos q, if_pos ⟨q.1, by show a + 0 = e; omega, fun j hj => absurd hj (by show ¬ j < 0; omega)⟩]
    · rw [if_neg q, if_neg (fun z => q ⟨z.1, by have : a + 0 = e := z.2.1; omega⟩)]
  | cons c w ih =>
    intro a b hw
    show (if c ≠ 32 then px_wa T s e k0 (w ++ 32 :: r) n (a + 1) (if b ≠ 0 ∧ a < e ∧ T a.toNat = c then 1 else 0) else _) = _
    rw [if_pos (hw c (List.mem_cons_self ..)), ih _ _ (fun x hx => hw x (List.mem_cons_of_mem _ hx))]
    have hl : (((c :: w).length : Nat) : Int) = w.length + 1 := by rw [List.length_cons]; omega
    have key : ((if b ≠ 0 ∧ a < e ∧ T a.toNat = c then (1 : Int) else 0) ≠ 0 ∧ a + 1 + w.length = e ∧ ∀ j : Nat, j < w.length → T (a + 1 + j).toNat = w.getD j 0) ↔ (b ≠ 0 ∧ a + (c :: w).length = e ∧ ∀ j : Nat, j < (c :: w).length → T (a + j).toNat = (c :: w).getD j 0) := by
      constructor
      · rintro ⟨q1, q2, q3⟩
        have z : b ≠ 0 ∧ a < e ∧ T a.toNat = c := by
          by_cases z : b ≠ 0 ∧ a < e ∧ T a.toNat = c
          · exact z
          · rw [if_neg z] at q1; exact absurd rfl q1
        refine ⟨z.1, by omega, fun j hj => ?_⟩
        cases j with
        | zero => rw [show a + ((0 : Nat) : Int) = a by omega]; exact z.2.2
        | succ j =>
          rw [show a + ((j + 1 : Nat) : Int) = a + 1 + j by omega]
          exact q3 j (by rw [List.length_cons] at hj; omega)
      · rintro ⟨q1, q2, q3⟩
        have z0 := q3 0 (by rw [List.length_cons]; omega)
        rw [show a + ((0 : Nat) : Int) = a by omega] at z0
        refine ⟨?_, by omega, fun j hj => ?_⟩
        · rw [if_pos ⟨q1, by omega, z0⟩]; decide
        · have z := q3 (j + 1) (by rw [List.length_cons]; omega)
          rw [show a + ((j + 1 : Nat) : Int) = a + 1 + j by omega] at z
          exact z
    by_cases q : b ≠ 0 ∧ a + (c :: w).length = e ∧ ∀ j : Nat, j < (c :: w).length → T (a + j).toNat = (c :: w).getD j 0
    · rw [if_pos q, if_pos (key.mpr q)]
    · rw [if_neg q, if_neg (fun z => q (key.mp z))]
noncomputable def px_str (X : List (Nat × List Value)) (p : Nat) : List Int := match pm_sx X p with
  | some l => l.map px_cv
  | none => []
theorem px_str_eq {X : List (Nat × List Value)} {p : Nat} {l : List Value} (h : pm_sx X p = some l) : px_str X p = l.map px_cv := by
  unfold px_str
  rw [h]
theorem px_drop {l : List Int} {n : Nat} {x : Int} (h : l[n]? = some x) : l.drop n = x :: l.drop (n + 1) := by
  obtain ⟨hn, e⟩ := List.getElem?_eq_some_iff.mp h
  rw [← e]
  exact List.drop_eq_getElem_cons hn
theorem px_wa_n {T : Nat → Int} {s e k0 c n a b : Int} {r : List Int} (h : c ≠ 32) : px_wa T s e k0 (c :: r) n a b = px_wa T s e k0 r n (a + 1) (if b ≠ 0 ∧ a < e ∧ T a.toNat = c then 1 else 0) := if_pos h
theorem px_wa_b {T : Nat → Int} {s e k0 c n a b : Int} {r : List Int} (h : c = 32) (h2 : ¬ (b ≠ 0 ∧ a = e)) : px_wa T s e k0 (c :: r) n a b = px_wa T s e k0 r (n + 1) s k0 := by
  have e1 : px_wa T s e k0 (c :: r) n a b = if b ≠ 0 ∧ a = e then n else px_wa T s e k0 r (n + 1) s k0 := if_neg (fun q => q h)
  rw [e1, if_neg h2]
theorem px_wa_f {T : Nat → Int} {s e k0 c n a b : Int} {r : List Int} (h : c = 32) (h2 : b ≠ 0 ∧ a = e) : px_wa T s e k0 (c :: r) n a b = n := by
  have e1 : px_wa T s e k0 (c :: r) n a b = if b ≠ 0 ∧ a = e then n else px_wa T s e k0 r (n + 1) s k0 := if_neg (fun q => q h)
  rw [e1, if_pos h2]
end
