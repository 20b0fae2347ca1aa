section
/-! a law of the model, exactly -/
set_option maxHeartbeats 4000000 in
theorem cm_237_t {X : List (Nat × List Value)} {d : Nat} {h : pm_H} (hd : 34 ≤ d) (I : pw_I h) (l : Int) (hl1 : (-2147483648) ≤ l) (hl2 : l ≤ 2147483647) (hp0 : pw_K h) (hp1 : pt_WK h) : pw X d h 237 0 [some (.ref 141), some (pw_i l), none] [] (fun h' v => pw_I h' ∧ pw_E [125, 127, 128, 129, 145, 146, 147, 1002] h h' ∧ (pw_K h') ∧ (∃ a : Int, v = .inl (some (pw_i a)) ∧ (-2147483648) ≤ a ∧ a ≤ 2147483647 ∧ (pw_g h' 125 2 = 0 ∧ (¬ (0 ≤ l ∧ l ≤ 3) → a = -1 ∧ pw_O h h') ∧ (0 ≤ l → l ≤ 3 → ∃ L : List pt_tok, pt_sg (pw_g h 126) (pw_g h 125 2).toNat 0 L (pw_g h 125 2).toNat ∧ a = (pt_TX 0 L (pw_g h 125 2).toNat).1 ∧ (a ≠ 0 → pw_O h h') ∧ (a = 0 → pt_MS h' l (pt_TX 0 L (pw_g h 125 2).toNat).2.1 (pt_TX 0 L (pw_g h 125 2).toNat).2.2.1 ∧ pt_LO h h' l))))) := by
  have E : pm_ent 237 = some (2, 3, 12, 0, pmc_237) := rfl
  have E0 : pw_E [125, 127, 128, 129, 145, 146, 147, 1002] h h := pw_E.rf _ _
  refine pw_ld E (pc' := 1) (st' := [.ref 141]) rfl (fun _ => rfl) ?_
  refine pw_ld E (pc' := 2) (st' := [pw_i 0, .ref 141]) rfl (fun _ => rfl) ?_
  refine pw_putI I E (c := 125) (k := 0) (pc' := 5) rfl rfl rfl rfl (by omega) (by omega) (by omega) (by omega) rfl rfl ?_
  intro h1I h1E
  generalize h1w : pw_w h 125 0 (pw_i 0) = h1 at h1I h1E ⊢
  have h1F := E0.tr (h1E.wk (W' := [125, 127, 128, 129, 145, 146, 147, 1002]) (by first | rfl | simp))
  refine pw_ld E (pc' := 6) (st' := [pw_i l]) rfl (fun _ => rfl) ?_
  refine pw_ld E (pc' := 7) (st' := [pw_i 0, pw_i l]) rfl (fun _ => rfl) ?_
  refine pw_ld E (pc' := 8) (st' := [pw_i 3, pw_i 0, pw_i l]) rfl (fun _ => rfl) ?_
  refine pw_call (m' := 202) (As := [pw_i l, pw_i 0, pw_i 3]) (rest := []) (ls'' := [some (pw_i l), some (pw_i 0), some (pw_i 3)]) (Nat.le_trans (by decide) hd) E rfl (fun _ => pw_iS rfl rfl rfl) (rfl : pm_ent 202 = some (3, 3, 12, 1, pmc_202)) rfl rfl (cm_202 (pw_dp hd (by decide)) h1I (l) (by omega) (by omega) (0) (by omega) (by omega) (3) (by omega) (by omega)) ?_
  rintro u3 v2 ⟨rfl, x4, rfl, hx4a, hx4b, hx4r⟩
  refine ⟨_, rfl, ?_⟩
  show pw X d h1 237 11 [some (.ref 141), some (pw_i l), none] [pw_i x4] _
  change (x4 = 1 ∧ 0 ≤ l ∧ l ≤ 3) ∨ (x4 = 0 ∧ ¬ (0 ≤ l ∧ l ≤ 3)) at hx4r
  rcases (by omega : x4 = 1 ∨ x4 = 0) with hb5 | hb5
  · skip
    refine pw_if E (pc' := 21) rfl (by decide) (by omega) (by omega) ?_ ?_
    · intro hc6
      change x4 ≠ (0 : Int) at hc6
      refine pw_ld E (pc' := 22) (st' := [.ref 141]) rfl (fun _ => rfl) ?_
      obtain ⟨f7l, f7h, -⟩ := pw_obj (c := 125) h1I rfl
      refine pw_call (m' := 238) (As := [.ref 141]) (rest := []) (ls'' := [some (.ref 141), none, none, none, none, none, none]) (Nat.le_trans (by decide) hd) E rfl (fun _ => pw_iV rfl rfl rfl rfl (pw_cellI f7h rfl)) (rfl : pm_ent 238 = some (1, 7, 12, 4, pmc_238)) rfl rfl (cm_238_t (pw_dp hd (by decide)) h1I ) ?_
      rintro h8 v9 ⟨h8I, h8E, hqtok, rfl⟩
      refine ⟨_, rfl, ?_⟩
      have h8F := h1F.tr (h8E.wk (W' := [125, 127, 128, 129, 145, 146, 147, 1002]) (by first | rfl | simp))
      show pw X d h8 237 25 [some (.ref 141), some (pw_i l), none] [] _
      obtain ⟨L, hA0, hz7, hz8, hsg, hLI, hKn, hPn, ht2⟩ := hqtok
      have hZ : pw_g h1 125 2 = pw_g h 125 2 := by rw [← h1w]; exact pw_g_ne (by omega)
      have hT : pw_g h1 126 = pw_g h 126 := funext fun j => by rw [← h1w]; exact pw_g_ne (by omega)
      rw [hZ, hT] at hsg
      rw [hZ] at hPn
      have hz0 : 0 ≤ pw_g h 125 2 := (pw_gI (c := 125) (k := 2) I rfl rfl).1
      have hAG := pt_AG.of hLI hKn hPn hz0
      have hnv : ∀ j : Nat, j < L.length → pw_g h8 127 j = 2 → 0 ≤ pw_gm h8 129 j ∧ pw_gm h8 129 j ≤ 9999 := fun j hj q => by obtain ⟨a, b, -⟩ := hLI j hj; rw [a] at q; rw [b]; exact hsg.nv j q
      have hTX := pt_text_ag (wr := 0) hAG (L.length + 1) 0 (fun _ => 0) (fun _ => []) (fun _ => 0) (by omega)
      have hWc : pt_WK h8 := hp1.E I h8F rfl
      have hKK : ∃ K : Nat → Int, K = pw_g h8 127 := ⟨_, rfl⟩
      have hVV : ∃ V : Nat → Int, V = pw_gm h8 129 := ⟨_, rfl⟩
      have hPP : ∃ P : Nat → Int, P = pw_g h8 128 := ⟨_, rfl⟩
      obtain ⟨K, hK⟩ := hKK
      obtain ⟨V, hV⟩ := hVV
      obtain ⟨P, hP⟩ := hPP
      rw [← hK, ← hV, ← hP] at hTX
      rw [← hK, ← hV] at hnv
      rw [← hK] at hKn
      have hRR : ∃ R : pt_TR, R = pt_text 0 K V P (L.length + 1) 0 (fun _ => 0) (fun _ => []) (fun _ => 0) := ⟨_, rfl⟩
      obtain ⟨R, hR⟩ := hRR
      have hRX : R = pt_TX 0 L (pw_g h 125 2).toNat := hR.trans hTX
      have hnn : ∃ n : Nat, n = L.length := ⟨_, rfl⟩
      obtain ⟨n, hn⟩ := hnn
      rw [← hn] at hA0 hnv hR hKn
      refine pw_ld E (pc' := 26) (st' := [.ref 141]) rfl (fun _ => rfl) ?_
      refine pw_ld E (pc' := 27) (st' := [pw_i 0, .ref 141]) rfl (fun _ => rfl) ?_
      refine pw_putI h8I E (c := 125) (k := 32) (pc' := 30) rfl rfl rfl rfl (by omega) (by omega) (by omega) (by omega) rfl rfl ?_
      intro h10I h10E
      generalize h10w : pw_w h8 125 32 (pw_i 0) = h10 at h10I h10E ⊢
      have h10F := h8F.tr (h10E.wk (W' := [125, 127, 128, 129, 145, 146, 147, 1002]) (by first | rfl | simp))
      refine pw_ld E (pc' := 31) (st' := [.ref 141]) rfl (fun _ => rfl) ?_
      refine pw_ld E (pc' := 32) (st' := [pw_i 0, .ref 141]) rfl (fun _ => rfl) ?_
      refine pw_putZ h10I E (c := 125) (k := 45) (pc' := 35) rfl rfl rfl rfl (by omega) (by omega) (by omega) rfl rfl ?_
      intro h11I h11E
      generalize h11w : pw_w h10 125 45 (pw_i 0) = h11 at h11I h11E ⊢
      have h11F := h10F.tr (h11E.wk (W' := [125, 127, 128, 129, 145, 146, 147, 1002]) (by first | rfl | simp))
      refine pw_ld E (pc' := 36) (st' := [pw_i 0]) rfl (fun _ => rfl) ?_
      refine pw_istn E (pc' := 37) (ls' := [some (.ref 141), some (pw_i l), some (pw_i 0)]) rfl rfl rfl rfl ?_
      refine pw_ld E (pc' := 38) (st' := [pw_i 0]) rfl (fun _ => rfl) ?_
      refine pw_ld E (pc' := 39) (st' := [pw_i 4, pw_i 0]) rfl (fun _ => rfl) ?_
      refine pw_if2 E (pc' := 58) rfl (by decide) (by decide) (by decide) (by decide) (by decide) ?_ ?_
      · intro hc12
        change (4 : Int) ≤ (0 : Int) at hc12
        exfalso; omega
      · intro hc13
        change ¬ ((4 : Int) ≤ (0 : Int)) at hc13
        refine pw_ld E (pc' := 43) (st' := [.ref 141]) rfl (fun _ => rfl) ?_
        refine pw_getR (b := 161) h11I E (c := 125) (k := 31) (pc' := 46) rfl rfl rfl rfl rfl rfl rfl ?_
        refine pw_bip E (pc' := 48) rfl rfl (by decide) ?_
        refine pw_ld E (pc' := 49) (st' := [pw_i 0, pw_i 16, .ref 161]) rfl (fun _ => rfl) ?_
        refine pw_add E (pc' := 50) rfl rfl ?_
        refine pw_ld E (pc' := 51) (st' := [pw_i ((-1)), pw_i (16 + 0), .ref 161]) rfl (fun _ => rfl) ?_
        refine pw_ast0 h11I E (c := 145) (pc' := 52) rfl rfl rfl (by decide) rfl (by decide) (by omega) (by omega) rfl (by omega) (by omega) (by omega) (by omega) rfl ?_
        intro h14I h14E
        generalize h14w : pw_w h11 145 (((16 + 0) : Int).toNat) (pw_i ((-1))) = h14 at h14I h14E ⊢
        have h14F := h11F.tr (h14E.wk (W' := [125, 127, 128, 129, 145, 146, 147, 1002]) (by first | rfl | simp))
        refine pw_inc E (pc' := 55) (ls' := [some (.ref 141), some (pw_i l), some (pw_i (0 + 1))]) rfl rfl rfl rfl ?_
        refine pw_goto E (pc' := 37) rfl (by decide) ?_
        refine pw_ld E (pc' := 38) (st' := [pw_i (0 + 1)]) rfl (fun _ => rfl) ?_
        refine pw_ld E (pc' := 39) (st' := [pw_i 4, pw_i (0 + 1)]) rfl (fun _ => rfl) ?_
        refine pw_if2 E (pc' := 58) rfl (by decide) (by decide) (by decide) (by decide) (by decide) ?_ ?_
        · intro hc15
          change (4 : Int) ≤ 0 + 1 at hc15
          exfalso; omega
        · intro hc16
          change ¬ ((4 : Int) ≤ 0 + 1) at hc16
          refine pw_ld E (pc' := 43) (st' := [.ref 141]) rfl (fun _ => rfl) ?_
          refine pw_getR (b := 161) h14I E (c := 125) (k := 31) (pc' := 46) rfl rfl rfl rfl rfl rfl rfl ?_
          refine pw_bip E (pc' := 48) rfl rfl (by decide) ?_
          refine pw_ld E (pc' := 49) (st' := [pw_i (0 + 1), pw_i 16, .ref 161]) rfl (fun _ => rfl) ?_
          refine pw_add E (pc' := 50) rfl rfl ?_
          refine pw_ld E (pc' := 51) (st' := [pw_i ((-1)), pw_i (16 + (0 + 1)), .ref 161]) rfl (fun _ => rfl) ?_
          refine pw_ast0 h14I E (c := 145) (pc' := 52) rfl rfl rfl (by decide) rfl (by decide) (by omega) (by omega) rfl (by omega) (by omega) (by omega) (by omega) rfl ?_
          intro h17I h17E
          generalize h17w : pw_w h14 145 (((16 + (0 + 1)) : Int).toNat) (pw_i ((-1))) = h17 at h17I h17E ⊢
          have h17F := h14F.tr (h17E.wk (W' := [125, 127, 128, 129, 145, 146, 147, 1002]) (by first | rfl | simp))
          refine pw_inc E (pc' := 55) (ls' := [some (.ref 141), some (pw_i l), some (pw_i ((0 + 1) + 1))]) rfl rfl rfl rfl ?_
          refine pw_goto E (pc' := 37) rfl (by decide) ?_
          refine pw_ld E (pc' := 38) (st' := [pw_i ((0 + 1) + 1)]) rfl (fun _ => rfl) ?_
          refine pw_ld E (pc' := 39) (st' := [pw_i 4, pw_i ((0 + 1) + 1)]) rfl (fun _ => rfl) ?_
          refine pw_if2 E (pc' := 58) rfl (by decide) (by decide) (by decide) (by decide) (by decide) ?_ ?_
          · intro hc18
            change (4 : Int) ≤ (0 + 1) + 1 at hc18
            exfalso; omega
          · intro hc19
            change ¬ ((4 : Int) ≤ (0 + 1) + 1) at hc19
            refine pw_ld E (pc' := 43) (st' := [.ref 141]) rfl (fun _ => rfl) ?_
            refine pw_getR (b := 161) h17I E (c := 125) (k := 31) (pc' := 46) rfl rfl rfl rfl rfl rfl rfl ?_
            refine pw_bip E (pc' := 48) rfl rfl (by decide) ?_
            refine pw_ld E (pc' := 49) (st' := [pw_i ((0 + 1) + 1), pw_i 16, .ref 161]) rfl (fun _ => rfl) ?_
            refine pw_add E (pc' := 50) rfl rfl ?_
            refine pw_ld E (pc' := 51) (st' := [pw_i ((-1)), pw_i (16 + ((0 + 1) + 1)), .ref 161]) rfl (fun _ => rfl) ?_
            refine pw_ast0 h17I E (c := 145) (pc' := 52) rfl rfl rfl (by decide) rfl (by decide) (by omega) (by omega) rfl (by omega) (by omega) (by omega) (by omega) rfl ?_
            intro h20I h20E
            generalize h20w : pw_w h17 145 (((16 + ((0 + 1) + 1)) : Int).toNat) (pw_i ((-1))) = h20 at h20I h20E ⊢
            have h20F := h17F.tr (h20E.wk (W' := [125, 127, 128, 129, 145, 146, 147, 1002]) (by first | rfl | simp))
            refine pw_inc E (pc' := 55) (ls' := [some (.ref 141), some (pw_i l), some (pw_i (((0 + 1) + 1) + 1))]) rfl rfl rfl rfl ?_
            refine pw_goto E (pc' := 37) rfl (by decide) ?_
            refine pw_ld E (pc' := 38) (st' := [pw_i (((0 + 1) + 1) + 1)]) rfl (fun _ => rfl) ?_
            refine pw_ld E (pc' := 39) (st' := [pw_i 4, pw_i (((0 + 1) + 1) + 1)]) rfl (fun _ => rfl) ?_
            refine pw_if2 E (pc' := 58) rfl (by decide) (by decide) (by decide) (by decide) (by decide) ?_ ?_
            · intro hc21
              change (4 : Int) ≤ ((0 + 1) + 1) + 1 at hc21
              exfalso; omega
            · intro hc22
              change ¬ ((4 : Int) ≤ ((0 + 1) + 1) + 1) at hc22
              refine pw_ld E (pc' := 43) (st' := [.ref 141]) rfl (fun _ => rfl) ?_
              refine pw_getR (b := 161) h20I E (c := 125) (k := 31) (pc' := 46) rfl rfl rfl rfl rfl rfl rfl ?_
              refine pw_bip E (pc' := 48) rfl rfl (by decide) ?_
              refine pw_ld E (pc' := 49) (st' := [pw_i (((0 + 1) + 1) + 1), pw_i 16, .ref 161]) rfl (fun _ => rfl) ?_
              refine pw_add E (pc' := 50) rfl rfl ?_
              refine pw_ld E (pc' := 51) (st' := [pw_i ((-1)), pw_i (16 + (((0 + 1) + 1) + 1)), .ref 161]) rfl (fun _ => rfl) ?_
              refine pw_ast0 h20I E (c := 145) (pc' := 52) rfl rfl rfl (by decide) rfl (by decide) (by omega) (by omega) rfl (by omega) (by omega) (by omega) (by omega) rfl ?_
              intro h23I h23E
              generalize h23w : pw_w h20 145 (((16 + (((0 + 1) + 1) + 1)) : Int).toNat) (pw_i ((-1))) = h23 at h23I h23E ⊢
              have h23F := h20F.tr (h23E.wk (W' := [125, 127, 128, 129, 145, 146, 147, 1002]) (by first | rfl | simp))
              refine pw_inc E (pc' := 55) (ls' := [some (.ref 141), some (pw_i l), some (pw_i ((((0 + 1) + 1) + 1) + 1))]) rfl rfl rfl rfl ?_
              refine pw_goto E (pc' := 37) rfl (by decide) ?_
              refine pw_ld E (pc' := 38) (st' := [pw_i ((((0 + 1) + 1) + 1) + 1)]) rfl (fun _ => rfl) ?_
              refine pw_ld E (pc' := 39) (st' := [pw_i 4, pw_i ((((0 + 1) + 1) + 1) + 1)]) rfl (fun _ => rfl) ?_
              refine pw_if2 E (pc' := 58) rfl (by decide) (by decide) (by decide) (by decide) (by decide) ?_ ?_
              · intro hc24
                change (4 : Int) ≤ (((0 + 1) + 1) + 1) + 1 at hc24
                have b7 : pw_g h23 125 7 = pw_g h8 125 7 := by rw [← h23w, pw_g_ne (by omega), ← h20w, pw_g_ne (by omega), ← h17w, pw_g_ne (by omega), ← h14w, pw_g_ne (by omega), ← h11w, pw_g_ne (by omega), ← h10w, pw_g_ne (by omega)]
                have b8 : pw_g h23 125 8 = pw_g h8 125 8 := by rw [← h23w, pw_g_ne (by omega), ← h20w, pw_g_ne (by omega), ← h17w, pw_g_ne (by omega), ← h14w, pw_g_ne (by omega), ← h11w, pw_g_ne (by omega), ← h10w, pw_g_ne (by omega)]
                have b9 : pw_g h23 125 32 = pw_g h10 125 32 := by rw [← h23w, pw_g_ne (by omega), ← h20w, pw_g_ne (by omega), ← h17w, pw_g_ne (by omega), ← h14w, pw_g_ne (by omega), ← h11w, pw_g_ne (by omega)]
                have bc : pw_g h10 125 32 = 0 := by rw [← h10w]; exact pw_g_eq (c := 125) (k := 32) h8I rfl rfl (by omega) (by omega)
                have hl25 : ∀ j : Nat, pw_g h23 127 j = pw_g h8 127 j := fun j => ((((((by rw [← h23w]; exact pw_g_ne (by omega) : pw_g h23 127 j = pw_g h20 127 j)).trans (by rw [← h20w]; exact pw_g_ne (by omega) : pw_g h20 127 j = pw_g h17 127 j)).trans (by rw [← h17w]; exact pw_g_ne (by omega) : pw_g h17 127 j = pw_g h14 127 j)).trans (by rw [← h14w]; exact pw_g_ne (by omega) : pw_g h14 127 j = pw_g h11 127 j)).trans (by rw [← h11w]; exact pw_g_ne (by omega) : pw_g h11 127 j = pw_g h10 127 j)).trans (by rw [← h10w]; exact pw_g_ne (by omega) : pw_g h10 127 j = pw_g h8 127 j)
                have bA : pw_A n h23 := ⟨hA0.1, by rw [hl25]; exact hA0.2.1, by omega, by omega, by omega, by omega⟩
                have bl0 : pw_g h23 145 16 = -1 := by rw [← h23w, pw_g_ne (by omega), ← h20w, pw_g_ne (by omega), ← h17w, pw_g_ne (by omega), ← h14w]; exact pw_g_eqA h11I rfl (by decide) (by decide) (by decide)
                have bl1 : pw_g h23 145 17 = -1 := by rw [← h23w, pw_g_ne (by omega), ← h20w, pw_g_ne (by omega), ← h17w]; exact pw_g_eqA h14I rfl (by decide) (by decide) (by decide)
                have bl2 : pw_g h23 145 18 = -1 := by rw [← h23w, pw_g_ne (by omega), ← h20w]; exact pw_g_eqA h17I rfl (by decide) (by decide) (by decide)
                have bl3 : pw_g h23 145 19 = -1 := by rw [← h23w]; exact pw_g_eqA h20I rfl (by decide) (by decide) (by decide)
                have bL : pw_Ls h23 := fun k hk => Or.inl (by rcases (by omega : k = 0 ∨ k = 1 ∨ k = 2 ∨ k = 3) with rfl | rfl | rfl | rfl; exact (show pw_g h23 145 16 < 0 by omega); exact (show pw_g h23 145 17 < 0 by omega); exact (show pw_g h23 145 18 < 0 by omega); exact (show pw_g h23 145 19 < 0 by omega))
                have b5 : ∀ j : Nat, j < 16 → pw_g h23 145 j = pw_g h11 145 j := fun j hj => by rw [← h23w, pw_g_ne (fun q => by have := q.2; omega), ← h20w, pw_g_ne (fun q => by have := q.2; omega), ← h17w, pw_g_ne (fun q => by have := q.2; omega), ← h14w, pw_g_ne (fun q => by have := q.2; omega)]
                have hl26 : ∀ j : Nat, pw_g h11 145 j = pw_g h 145 j := fun j => ((((by rw [← h11w]; exact pw_g_ne (by omega) : pw_g h11 145 j = pw_g h10 145 j)).trans (by rw [← h10w]; exact pw_g_ne (by omega) : pw_g h10 145 j = pw_g h8 145 j)).trans (pw_Eg (c := 145) h1I h8E rfl rfl j : pw_g h8 145 j = pw_g h1 145 j)).trans (by rw [← h1w]; exact pw_g_ne (by omega) : pw_g h1 145 j = pw_g h 145 j)
                have hl27 : ∀ j : Nat, pw_g h23 146 j = pw_g h 146 j := fun j => ((((((((by rw [← h23w]; exact pw_g_ne (by omega) : pw_g h23 146 j = pw_g h20 146 j)).trans (by rw [← h20w]; exact pw_g_ne (by omega) : pw_g h20 146 j = pw_g h17 146 j)).trans (by rw [← h17w]; exact pw_g_ne (by omega) : pw_g h17 146 j = pw_g h14 146 j)).trans (by rw [← h14w]; exact pw_g_ne (by omega) : pw_g h14 146 j = pw_g h11 146 j)).trans (by rw [← h11w]; exact pw_g_ne (by omega) : pw_g h11 146 j = pw_g h10 146 j)).trans (by rw [← h10w]; exact pw_g_ne (by omega) : pw_g h10 146 j = pw_g h8 146 j)).trans (pw_Eg (c := 146) h1I h8E rfl rfl j : pw_g h8 146 j = pw_g h1 146 j)).trans (by rw [← h1w]; exact pw_g_ne (by omega) : pw_g h1 146 j = pw_g h 146 j)
                have hl28 : ∀ j : Nat, pw_g h23 147 j = pw_g h 147 j := fun j => ((((((((by rw [← h23w]; exact pw_g_ne (by omega) : pw_g h23 147 j = pw_g h20 147 j)).trans (by rw [← h20w]; exact pw_g_ne (by omega) : pw_g h20 147 j = pw_g h17 147 j)).trans (by rw [← h17w]; exact pw_g_ne (by omega) : pw_g h17 147 j = pw_g h14 147 j)).trans (by rw [← h14w]; exact pw_g_ne (by omega) : pw_g h14 147 j = pw_g h11 147 j)).trans (by rw [← h11w]; exact pw_g_ne (by omega) : pw_g h11 147 j = pw_g h10 147 j)).trans (by rw [← h10w]; exact pw_g_ne (by omega) : pw_g h10 147 j = pw_g h8 147 j)).trans (pw_Eg (c := 147) h1I h8E rfl rfl j : pw_g h8 147 j = pw_g h1 147 j)).trans (by rw [← h1w]; exact pw_g_ne (by omega) : pw_g h1 147 j = pw_g h 147 j)
                have hl29 : ∀ j : Nat, pw_g h23 157 j = pw_g h 157 j := fun j => ((((((((by rw [← h23w]; exact pw_g_ne (by omega) : pw_g h23 157 j = pw_g h20 157 j)).trans (by rw [← h20w]; exact pw_g_ne (by omega) : pw_g h20 157 j = pw_g h17 157 j)).trans (by rw [← h17w]; exact pw_g_ne (by omega) : pw_g h17 157 j = pw_g h14 157 j)).trans (by rw [← h14w]; exact pw_g_ne (by omega) : pw_g h14 157 j = pw_g h11 157 j)).trans (by rw [← h11w]; exact pw_g_ne (by omega) : pw_g h11 157 j = pw_g h10 157 j)).trans (by rw [← h10w]; exact pw_g_ne (by omega) : pw_g h10 157 j = pw_g h8 157 j)).trans (pw_Eg (c := 157) h1I h8E rfl rfl j : pw_g h8 157 j = pw_g h1 157 j)).trans (by rw [← h1w]; exact pw_g_ne (by omega) : pw_g h1 157 j = pw_g h 157 j)
                have bO : pw_O h h23 := ⟨fun j hj => (b5 j hj).trans (hl26 j), fun j _ => ⟨hl27 j, hl28 j⟩, hl29⟩
                have bE : pw_E [125, 145] h8 h23 := ((((((h10E.wk (W' := [125, 145]) (by first | rfl | simp)).tr (h11E.wk (W' := [125, 145]) (by first | rfl | simp))).tr (h14E.wk (W' := [125, 145]) (by first | rfl | simp))).tr (h17E.wk (W' := [125, 145]) (by first | rfl | simp))).tr (h20E.wk (W' := [125, 145]) (by first | rfl | simp))).tr (h23E.wk (W' := [125, 145]) (by first | rfl | simp)))
                have b45 : pw_g h23 125 45 = pw_g h11 125 45 := by rw [← h23w, pw_g_ne (by omega), ← h20w, pw_g_ne (by omega), ← h17w, pw_g_ne (by omega), ← h14w, pw_g_ne (by omega)]
                have b45z : pw_g h11 125 45 = 0 := by rw [← h11w]; exact pw_g_eq (c := 125) (k := 45) h10I rfl rfl (by omega) (by omega)
                have bT : pt_TK K V P 0 h23 := by rw [hK, hV, hP]; exact pt_TK.mk h8I bE hWc rfl (b45.trans b45z)
                have b2 : pw_g h23 125 2 = 0 := (pt_e2 bE rfl).trans ht2
                have bR : pt_RS 0 K V P n R h23 := by rw [hR]; exact pt_RS.z (by omega) (by omega) bl0 bl1 bl2 bl3
                have L58 : ∀ (n58 : Nat)  (gh58 : pm_H), pw_I gh58 → pw_E [125, 127, 128, 129, 145, 146, 147, 1002] h gh58 → pw_A n gh58 → pw_g gh58 125 32 ≤ pw_g gh58 125 7 → (pw_g gh58 125 8 = 0 → pw_Ls gh58) → pw_O h gh58 → pt_TK K V P 0 gh58 → pt_RS 0 K V P n R gh58 → pw_g gh58 125 2 = 0 → ((n : Int) - pw_g gh58 125 7 + 1 - min (pw_g gh58 125 8) 1).toNat = n58 → pw X d gh58 237 58 [some (.ref 141), some (pw_i l), some (pw_i ((((0 + 1) + 1) + 1) + 1))] [] (fun h' v => pw_I h' ∧ pw_E [125, 127, 128, 129, 145, 146, 147, 1002] h h' ∧ (pw_K h') ∧ (∃ a : Int, v = .inl (some (pw_i a)) ∧ (-2147483648) ≤ a ∧ a ≤ 2147483647 ∧ (pw_g h' 125 2 = 0 ∧ (¬ (0 ≤ l ∧ l ≤ 3) → a = -1 ∧ pw_O h h') ∧ (0 ≤ l → l ≤ 3 → ∃ L : List pt_tok, pt_sg (pw_g h 126) (pw_g h 125 2).toNat 0 L (pw_g h 125 2).toNat ∧ a = (pt_TX 0 L (pw_g h 125 2).toNat).1 ∧ (a ≠ 0 → pw_O h h') ∧ (a = 0 → pt_MS h' l (pt_TX 0 L (pw_g h 125 2).toNat).2.1 (pt_TX 0 L (pw_g h 125 2).toNat).2.2.1 ∧ pt_LO h h' l))))) := by
                  intro n58
                  induction n58 using Nat.strongRecOn with
                  | ind n58 ih58 =>
                    intro  gh58 I58 E58 hx58_0 hx58_1 hx58_2 hx58_3 hx58_4 hx58_5 hx58_6 hm58
                    refine pw_ld E (pc' := 59) (st' := [.ref 141]) rfl (fun _ => rfl) ?_
                    refine pw_getI2 I58 E (c := 125) (k := 8) (pc' := 62) rfl rfl rfl rfl rfl rfl (fun hf30a hf30b => ?_)
                    refine pw_if E (pc' := 84) rfl (by decide) (by omega) (by omega) ?_ ?_
                    · intro hc31
                      change pw_g gh58 125 8 ≠ (0 : Int) at hc31
                      have hA58 : pw_g gh58 125 7 ≤ n ∧ 0 ≤ pw_g gh58 125 8 ∧ 0 ≤ pw_g gh58 125 7 ∧ 0 ≤ pw_g gh58 125 32 := hx58_0.2.2
                      have hn1 : n ≤ 1000 := hx58_0.1
                      refine pw_ld E (pc' := 85) (st' := [.ref 141]) rfl (fun _ => rfl) ?_
                      refine pw_getI2 I58 E (c := 125) (k := 8) (pc' := 88) rfl rfl rfl rfl rfl rfl (fun hf32a hf32b => ?_)
                      refine pw_if E (pc' := 96) rfl (by decide) (by omega) (by omega) ?_ ?_
                      · intro hc33
                        change pw_g gh58 125 8 ≤ (0 : Int) at hc33
                        refine pw_ld E (pc' := 97) (st' := [pw_i 0]) rfl (fun _ => rfl) ?_
                        refine pw_istn E (pc' := 98) (ls' := [some (.ref 141), some (pw_i l), some (pw_i 0)]) rfl rfl rfl rfl ?_
                        refine pw_ld E (pc' := 99) (st' := [pw_i 0]) rfl (fun _ => rfl) ?_
                        refine pw_ld E (pc' := 100) (st' := [pw_i 4, pw_i 0]) rfl (fun _ => rfl) ?_
                        refine pw_if2 E (pc' := 128) rfl (by decide) (by decide) (by decide) (by decide) (by decide) ?_ ?_
                        · intro hc34
                          change (4 : Int) ≤ (0 : Int) at hc34
                          exfalso; omega
                        · intro hc35
                          change ¬ ((4 : Int) ≤ (0 : Int)) at hc35
                          refine pw_ld E (pc' := 104) (st' := [.ref 141]) rfl (fun _ => rfl) ?_
                          refine pw_getR (b := 161) I58 E (c := 125) (k := 31) (pc' := 107) rfl rfl rfl rfl rfl rfl rfl ?_
                          refine pw_ld E (pc' := 108) (st' := [pw_i 4, .ref 161]) rfl (fun _ => rfl) ?_
                          refine pw_ld E (pc' := 109) (st' := [pw_i l, pw_i 4, .ref 161]) rfl (fun _ => rfl) ?_
                          refine pw_mul E (pc' := 110) rfl rfl ?_
                          refine pw_ld E (pc' := 111) (st' := [pw_i 0, pw_i (4 * l), .ref 161]) rfl (fun _ => rfl) ?_
                          refine pw_add E (pc' := 112) rfl rfl ?_
                          refine pw_ld E (pc' := 113) (st' := [.ref 141, pw_i ((4 * l) + 0), .ref 161]) rfl (fun _ => rfl) ?_
                          refine pw_getR (b := 161) I58 E (c := 125) (k := 31) (pc' := 116) rfl rfl rfl rfl rfl rfl rfl ?_
                          refine pw_bip E (pc' := 118) rfl rfl (by decide) ?_
                          refine pw_ld E (pc' := 119) (st' := [pw_i 0, pw_i 16, .ref 161, pw_i ((4 * l) + 0), .ref 161]) rfl (fun _ => rfl) ?_
                          refine pw_add E (pc' := 120) rfl rfl ?_
                          refine pw_ald2 I58 E (c := 145) (pc' := 121) rfl rfl rfl (by decide) rfl (by decide) (by omega) (by omega) rfl (fun hf36a hf36b => ?_)
                          refine pw_ast0 I58 E (c := 145) (pc' := 122) rfl rfl rfl (by decide) rfl (by decide) (by omega) (by omega) rfl (by omega) (by omega) (by omega) (by omega) rfl ?_
                          intro h37I h37E
                          generalize h37w : pw_w gh58 145 (((4 * l) + 0).toNat) (pw_i (pw_g gh58 145 (((16 + 0) : Int).toNat))) = h37 at h37I h37E ⊢
                          have h37F := E58.tr (h37E.wk (W' := [125, 127, 128, 129, 145, 146, 147, 1002]) (by first | rfl | simp))
                          refine pw_inc E (pc' := 125) (ls' := [some (.ref 141), some (pw_i l), some (pw_i (0 + 1))]) rfl rfl rfl rfl ?_
                          refine pw_goto E (pc' := 98) rfl (by decide) ?_
                          refine pw_ld E (pc' := 99) (st' := [pw_i (0 + 1)]) rfl (fun _ => rfl) ?_
                          refine pw_ld E (pc' := 100) (st' := [pw_i 4, pw_i (0 + 1)]) rfl (fun _ => rfl) ?_
                          refine pw_if2 E (pc' := 128) rfl (by decide) (by decide) (by decide) (by decide) (by decide) ?_ ?_
                          · intro hc38
                            change (4 : Int) ≤ 0 + 1 at hc38
                            exfalso; omega
                          · intro hc39
                            change ¬ ((4 : Int) ≤ 0 + 1) at hc39
                            refine pw_ld E (pc' := 104) (st' := [.ref 141]) rfl (fun _ => rfl) ?_
                            refine pw_getR (b := 161) h37I E (c := 125) (k := 31) (pc' := 107) rfl rfl rfl rfl rfl rfl rfl ?_
                            refine pw_ld E (pc' := 108) (st' := [pw_i 4, .ref 161]) rfl (fun _ => rfl) ?_
                            refine pw_ld E (pc' := 109) (st' := [pw_i l, pw_i 4, .ref 161]) rfl (fun _ => rfl) ?_
                            refine pw_mul E (pc' := 110) rfl rfl ?_
                            refine pw_ld E (pc' := 111) (st' := [pw_i (0 + 1), pw_i (4 * l), .ref 161]) rfl (fun _ => rfl) ?_
                            refine pw_add E (pc' := 112) rfl rfl ?_
                            refine pw_ld E (pc' := 113) (st' := [.ref 141, pw_i ((4 * l) + (0 + 1)), .ref 161]) rfl (fun _ => rfl) ?_
                            refine pw_getR (b := 161) h37I E (c := 125) (k := 31) (pc' := 116) rfl rfl rfl rfl rfl rfl rfl ?_
                            refine pw_bip E (pc' := 118) rfl rfl (by decide) ?_
                            refine pw_ld E (pc' := 119) (st' := [pw_i (0 + 1), pw_i 16, .ref 161, pw_i ((4 * l) + (0 + 1)), .ref 161]) rfl (fun _ => rfl) ?_
                            refine pw_add E (pc' := 120) rfl rfl ?_
                            refine pw_ald2 h37I E (c := 145) (pc' := 121) rfl rfl rfl (by decide) rfl (by decide) (by omega) (by omega) rfl (fun hf40a hf40b => ?_)
                            refine pw_ast0 h37I E (c := 145) (pc' := 122) rfl rfl rfl (by decide) rfl (by decide) (by omega) (by omega) rfl (by omega) (by omega) (by omega) (by omega) rfl ?_
                            intro h41I h41E
                            generalize h41w : pw_w h37 145 (((4 * l) + (0 + 1)).toNat) (pw_i (pw_g h37 145 (((16 + (0 + 1)) : Int).toNat))) = h41 at h41I h41E ⊢
                            have h41F := h37F.tr (h41E.wk (W' := [125, 127, 128, 129, 145, 146, 147, 1002]) (by first | rfl | simp))
                            refine pw_inc E (pc' := 125) (ls' := [some (.ref 141), some (pw_i l), some (pw_i ((0 + 1) + 1))]) rfl rfl rfl rfl ?_
                            refine pw_goto E (pc' := 98) rfl (by decide) ?_
                            refine pw_ld E (pc' := 99) (st' := [pw_i ((0 + 1) + 1)]) rfl (fun _ => rfl) ?_
                            refine pw_ld E (pc' := 100) (st' := [pw_i 4, pw_i ((0 + 1) + 1)]) rfl (fun _ => rfl) ?_
                            refine pw_if2 E (pc' := 128) rfl (by decide) (by decide) (by decide) (by decide) (by decide) ?_ ?_
                            · intro hc42
                              change (4 : Int) ≤ (0 + 1) + 1 at hc42
                              exfalso; omega
                            · intro hc43
                              change ¬ ((4 : Int) ≤ (0 + 1) + 1) at hc43
                              refine pw_ld E (pc' := 104) (st' := [.ref 141]) rfl (fun _ => rfl) ?_
                              refine pw_getR (b := 161) h41I E (c := 125) (k := 31) (pc' := 107) rfl rfl rfl rfl rfl rfl rfl ?_
                              refine pw_ld E (pc' := 108) (st' := [pw_i 4, .ref 161]) rfl (fun _ => rfl) ?_
                              refine pw_ld E (pc' := 109) (st' := [pw_i l, pw_i 4, .ref 161]) rfl (fun _ => rfl) ?_
                              refine pw_mul E (pc' := 110) rfl rfl ?_
                              refine pw_ld E (pc' := 111) (st' := [pw_i ((0 + 1) + 1), pw_i (4 * l), .ref 161]) rfl (fun _ => rfl) ?_
                              refine pw_add E (pc' := 112) rfl rfl ?_
                              refine pw_ld E (pc' := 113) (st' := [.ref 141, pw_i ((4 * l) + ((0 + 1) + 1)), .ref 161]) rfl (fun _ => rfl) ?_
                              refine pw_getR (b := 161) h41I E (c := 125) (k := 31) (pc' := 116) rfl rfl rfl rfl rfl rfl rfl ?_
                              refine pw_bip E (pc' := 118) rfl rfl (by decide) ?_
                              refine pw_ld E (pc' := 119) (st' := [pw_i ((0 + 1) + 1), pw_i 16, .ref 161, pw_i ((4 * l) + ((0 + 1) + 1)), .ref 161]) rfl (fun _ => rfl) ?_
                              refine pw_add E (pc' := 120) rfl rfl ?_
                              refine pw_ald2 h41I E (c := 145) (pc' := 121) rfl rfl rfl (by decide) rfl (by decide) (by omega) (by omega) rfl (fun hf44a hf44b => ?_)
                              refine pw_ast0 h41I E (c := 145) (pc' := 122) rfl rfl rfl (by decide) rfl (by decide) (by omega) (by omega) rfl (by omega) (by omega) (by omega) (by omega) rfl ?_
                              intro h45I h45E
                              generalize h45w : pw_w h41 145 (((4 * l) + ((0 + 1) + 1)).toNat) (pw_i (pw_g h41 145 (((16 + ((0 + 1) + 1)) : Int).toNat))) = h45 at h45I h45E ⊢
                              have h45F := h41F.tr (h45E.wk (W' := [125, 127, 128, 129, 145, 146, 147, 1002]) (by first | rfl | simp))
                              refine pw_inc E (pc' := 125) (ls' := [some (.ref 141), some (pw_i l), some (pw_i (((0 + 1) + 1) + 1))]) rfl rfl rfl rfl ?_
                              refine pw_goto E (pc' := 98) rfl (by decide) ?_
                              refine pw_ld E (pc' := 99) (st' := [pw_i (((0 + 1) + 1) + 1)]) rfl (fun _ => rfl) ?_
                              refine pw_ld E (pc' := 100) (st' := [pw_i 4, pw_i (((0 + 1) + 1) + 1)]) rfl (fun _ => rfl) ?_
                              refine pw_if2 E (pc' := 128) rfl (by decide) (by decide) (by decide) (by decide) (by decide) ?_ ?_
                              · intro hc46
                                change (4 : Int) ≤ ((0 + 1) + 1) + 1 at hc46
                                exfalso; omega
                              · intro hc47
                                change ¬ ((4 : Int) ≤ ((0 + 1) + 1) + 1) at hc47
                                refine pw_ld E (pc' := 104) (st' := [.ref 141]) rfl (fun _ => rfl) ?_
                                refine pw_getR (b := 161) h45I E (c := 125) (k := 31) (pc' := 107) rfl rfl rfl rfl rfl rfl rfl ?_
                                refine pw_ld E (pc' := 108) (st' := [pw_i 4, .ref 161]) rfl (fun _ => rfl) ?_
                                refine pw_ld E (pc' := 109) (st' := [pw_i l, pw_i 4, .ref 161]) rfl (fun _ => rfl) ?_
                                refine pw_mul E (pc' := 110) rfl rfl ?_
                                refine pw_ld E (pc' := 111) (st' := [pw_i (((0 + 1) + 1) + 1), pw_i (4 * l), .ref 161]) rfl (fun _ => rfl) ?_
                                refine pw_add E (pc' := 112) rfl rfl ?_
                                refine pw_ld E (pc' := 113) (st' := [.ref 141, pw_i ((4 * l) + (((0 + 1) + 1) + 1)), .ref 161]) rfl (fun _ => rfl) ?_
                                refine pw_getR (b := 161) h45I E (c := 125) (k := 31) (pc' := 116) rfl rfl rfl rfl rfl rfl rfl ?_
                                refine pw_bip E (pc' := 118) rfl rfl (by decide) ?_
                                refine pw_ld E (pc' := 119) (st' := [pw_i (((0 + 1) + 1) + 1), pw_i 16, .ref 161, pw_i ((4 * l) + (((0 + 1) + 1) + 1)), .ref 161]) rfl (fun _ => rfl) ?_
                                refine pw_add E (pc' := 120) rfl rfl ?_
                                refine pw_ald2 h45I E (c := 145) (pc' := 121) rfl rfl rfl (by decide) rfl (by decide) (by omega) (by omega) rfl (fun hf48a hf48b => ?_)
                                refine pw_ast0 h45I E (c := 145) (pc' := 122) rfl rfl rfl (by decide) rfl (by decide) (by omega) (by omega) rfl (by omega) (by omega) (by omega) (by omega) rfl ?_
                                intro h49I h49E
                                generalize h49w : pw_w h45 145 (((4 * l) + (((0 + 1) + 1) + 1)).toNat) (pw_i (pw_g h45 145 (((16 + (((0 + 1) + 1) + 1)) : Int).toNat))) = h49 at h49I h49E ⊢
                                have h49F := h45F.tr (h49E.wk (W' := [125, 127, 128, 129, 145, 146, 147, 1002]) (by first | rfl | simp))
                                refine pw_inc E (pc' := 125) (ls' := [some (.ref 141), some (pw_i l), some (pw_i ((((0 + 1) + 1) + 1) + 1))]) rfl rfl rfl rfl ?_
                                refine pw_goto E (pc' := 98) rfl (by decide) ?_
                                refine pw_ld E (pc' := 99) (st' := [pw_i ((((0 + 1) + 1) + 1) + 1)]) rfl (fun _ => rfl) ?_
                                refine pw_ld E (pc' := 100) (st' := [pw_i 4, pw_i ((((0 + 1) + 1) + 1) + 1)]) rfl (fun _ => rfl) ?_
                                refine pw_if2 E (pc' := 128) rfl (by decide) (by decide) (by decide) (by decide) (by decide) ?_ ?_
                                · intro hc50
                                  change (4 : Int) ≤ (((0 + 1) + 1) + 1) + 1 at hc50
                                  refine pw_ld E (pc' := 129) (st' := [.ref 141]) rfl (fun _ => rfl) ?_
                                  refine pw_ld E (pc' := 130) (st' := [pw_i l, .ref 141]) rfl (fun _ => rfl) ?_
                                  have he51 : pw_g h49 125 32 = pw_g h45 125 32 := by rw [← h49w]; exact pw_g_ne (by omega)
                                  have he52 : pw_g h45 125 32 = pw_g h41 125 32 := by rw [← h45w]; exact pw_g_ne (by omega)
                                  have he53 : pw_g h41 125 32 = pw_g h37 125 32 := by rw [← h41w]; exact pw_g_ne (by omega)
                                  have he54 : pw_g h37 125 32 = pw_g gh58 125 32 := by rw [← h37w]; exact pw_g_ne (by omega)
                                  obtain ⟨f55l, f55h, -⟩ := pw_obj (c := 125) h49I rfl
                                  refine pw_call (m' := 258) (As := [.ref 141, pw_i l]) (rest := []) (ls'' := [some (.ref 141), some (pw_i l), none]) (Nat.le_trans (by decide) hd) E rfl (fun _ => pw_iV rfl rfl rfl rfl (pw_cellI f55h rfl)) (rfl : pm_ent 258 = some (2, 3, 12, 4, pmc_258)) rfl rfl (cm_258 (pw_dp hd (by decide)) h49I (l) (by omega) (by omega) (by omega) (by omega)) ?_
                                  rintro h56 v57 ⟨h56I, h56E, hqkeep, rfl⟩
                                  refine ⟨_, rfl, ?_⟩
                                  have h56F := h49F.tr (h56E.wk (W' := [125, 127, 128, 129, 145, 146, 147, 1002]) (by first | rfl | simp))
                                  show pw X d h56 237 133 [some (.ref 141), some (pw_i l), some (pw_i ((((0 + 1) + 1) + 1) + 1))] [] _
                                  refine pw_ld E (pc' := 134) (st' := [pw_i 0]) rfl (fun _ => rfl) ?_
                                  refine pw_iret E rfl ?_
                                  have hcp := pw_cp4 (l := l) (by omega) (by omega) I58 h37I h41I h45I h37w h41w h45w h49w
                                  have hl58 : ∀ j : Nat, pw_g h49 146 j = pw_g gh58 146 j := fun j => ((((by rw [← h49w]; exact pw_g_ne (by omega) : pw_g h49 146 j = pw_g h45 146 j)).trans (by rw [← h45w]; exact pw_g_ne (by omega) : pw_g h45 146 j = pw_g h41 146 j)).trans (by rw [← h41w]; exact pw_g_ne (by omega) : pw_g h41 146 j = pw_g h37 146 j)).trans (by rw [← h37w]; exact pw_g_ne (by omega) : pw_g h37 146 j = pw_g gh58 146 j)
                                  have hl59 : ∀ j : Nat, pw_g h49 147 j = pw_g gh58 147 j := fun j => ((((by rw [← h49w]; exact pw_g_ne (by omega) : pw_g h49 147 j = pw_g h45 147 j)).trans (by rw [← h45w]; exact pw_g_ne (by omega) : pw_g h45 147 j = pw_g h41 147 j)).trans (by rw [← h41w]; exact pw_g_ne (by omega) : pw_g h41 147 j = pw_g h37 147 j)).trans (by rw [← h37w]; exact pw_g_ne (by omega) : pw_g h37 147 j = pw_g gh58 147 j)
                                  have hl60 : ∀ j : Nat, pw_g h56 157 j = pw_g gh58 157 j := fun j => (((((pw_Eg (c := 157) h49I h56E rfl rfl j : pw_g h56 157 j = pw_g h49 157 j)).trans (by rw [← h49w]; exact pw_g_ne (by omega) : pw_g h49 157 j = pw_g h45 157 j)).trans (by rw [← h45w]; exact pw_g_ne (by omega) : pw_g h45 157 j = pw_g h41 157 j)).trans (by rw [← h41w]; exact pw_g_ne (by omega) : pw_g h41 157 j = pw_g h37 157 j)).trans (by rw [← h37w]; exact pw_g_ne (by omega) : pw_g h37 157 j = pw_g gh58 157 j)
                                  have hl61 : ∀ j : Nat, pw_g h56 145 j = pw_g h49 145 j := fun j => (pw_Eg (c := 145) h49I h56E rfl rfl j : pw_g h56 145 j = pw_g h49 145 j)
                                  have b9 : pw_g h49 125 32 = pw_g gh58 125 32 := by rw [← h49w, pw_g_ne (by omega), ← h45w, pw_g_ne (by omega), ← h41w, pw_g_ne (by omega), ← h37w, pw_g_ne (by omega)]
                                  have hkc : pw_KC gh58 h56 l (pw_g gh58 125 32) := by rw [← b9]; exact hqkeep.cg hl58 hl59
                                  have cE : pw_E [145, 146, 147] gh58 h56 := (((((h37E.wk (W' := [145, 146, 147]) (by first | rfl | simp)).tr (h41E.wk (W' := [145, 146, 147]) (by first | rfl | simp))).tr (h45E.wk (W' := [145, 146, 147]) (by first | rfl | simp))).tr (h49E.wk (W' := [145, 146, 147]) (by first | rfl | simp))).tr (h56E.wk (W' := [145, 146, 147]) (by first | rfl | simp)))
                                  have hk0 : K (pw_g gh58 125 7).toNat = 0 := by rw [← hx58_4.1]; first | assumption | omega
                                  obtain ⟨-, th, C, N, hTI, hML⟩ := hx58_5.resolve_right (fun q => by have := q.1; omega)
                                  have hRe := hTI.en (by omega) hk0
                                  rw [hRX] at hRe
                                  have hMS := hML.law (l := l) (by omega) (by omega) (by omega) (fun k hk => (hl61 _).trans (hcp.1 k hk)) hkc
                                  have hLO : pt_LO h h56 l := ⟨fun j hj q => ((hl61 _).trans (hcp.2 j q)).trans (hx58_3.1 j hj), fun j q1 q2 => ⟨(hkc.2 j q2).1.trans (hx58_3.2.1 j q1).1, (hkc.2 j q2).2.trans (hx58_3.2.1 j q1).2⟩, fun j => (hl60 j).trans (hx58_3.2.2 j)⟩
                                  have hrel : pw_g h56 125 2 = 0 ∧ (¬ (0 ≤ l ∧ l ≤ 3) → (0 : Int) = -1 ∧ pw_O h h56) ∧ (0 ≤ l → l ≤ 3 → ∃ L : List pt_tok, pt_sg (pw_g h 126) (pw_g h 125 2).toNat 0 L (pw_g h 125 2).toNat ∧ (0 : Int) = (pt_TX 0 L (pw_g h 125 2).toNat).1 ∧ ((0 : Int) ≠ 0 → pw_O h h56) ∧ ((0 : Int) = 0 → pt_MS h56 l (pt_TX 0 L (pw_g h 125 2).toNat).2.1 (pt_TX 0 L (pw_g h 125 2).toNat).2.2.1 ∧ pt_LO h h56 l)) := ⟨(pt_e2 cE rfl).trans hx58_6, fun q => absurd ⟨by omega, by omega⟩ q, fun _ _ => ⟨L, hsg, by rw [hRe], fun q => absurd rfl q, fun _ => ⟨by rw [hRe]; exact hMS, hLO⟩⟩⟩
                                  exact ⟨h56I, h56F, (hp0.of hx58_3.1 hx58_3.2.1 hx58_3.2.2).law (by omega) (by omega) (hx58_2 (by omega)) (by omega) (fun k hk => (hl61 _).trans (hcp.1 k hk)) (fun j _ hj => (hl61 _).trans (hcp.2 j hj)) hkc hl60, ⟨_, rfl, by omega, by omega, hrel⟩⟩
                                · intro hc62
                                  change ¬ ((4 : Int) ≤ (((0 + 1) + 1) + 1) + 1) at hc62
                                  exfalso; omega
                      · intro hc63
                        change ¬ (pw_g gh58 125 8 ≤ (0 : Int)) at hc63
                        refine pw_ld E (pc' := 92) (st' := [.ref 141]) rfl (fun _ => rfl) ?_
                        refine pw_getI2 I58 E (c := 125) (k := 8) (pc' := 95) rfl rfl rfl rfl rfl rfl (fun hf64a hf64b => ?_)
                        refine pw_iret E rfl ?_
                        have hRf := (hx58_5.resolve_left (fun q => by have := q.1; omega)).2
                        have hrel : pw_g gh58 125 2 = 0 ∧ (¬ (0 ≤ l ∧ l ≤ 3) → pw_g gh58 125 8 = -1 ∧ pw_O h gh58) ∧ (0 ≤ l → l ≤ 3 → ∃ L : List pt_tok, pt_sg (pw_g h 126) (pw_g h 125 2).toNat 0 L (pw_g h 125 2).toNat ∧ pw_g gh58 125 8 = (pt_TX 0 L (pw_g h 125 2).toNat).1 ∧ (pw_g gh58 125 8 ≠ 0 → pw_O h gh58) ∧ (pw_g gh58 125 8 = 0 → pt_MS gh58 l (pt_TX 0 L (pw_g h 125 2).toNat).2.1 (pt_TX 0 L (pw_g h 125 2).toNat).2.2.1 ∧ pt_LO h gh58 l)) := ⟨hx58_6, fun q => absurd ⟨by omega, by omega⟩ q, fun _ _ => ⟨L, hsg, by rw [← hRX]; exact hRf.symm, fun _ => hx58_3, fun q => absurd q (by omega)⟩⟩
                        exact ⟨I58, E58, hp0.of hx58_3.1 hx58_3.2.1 hx58_3.2.2, ⟨_, rfl, by omega, by omega, hrel⟩⟩
                    · intro hc65
                      change ¬ (pw_g gh58 125 8 ≠ (0 : Int)) at hc65
                      refine pw_ld E (pc' := 66) (st' := [.ref 141]) rfl (fun _ => rfl) ?_
                      refine pw_getR (b := 143) I58 E (c := 125) (k := 4) (pc' := 69) rfl rfl rfl rfl rfl rfl rfl ?_
                      refine pw_ld E (pc' := 70) (st' := [.ref 141, .ref 143]) rfl (fun _ => rfl) ?_
                      refine pw_getI2 I58 E (c := 125) (k := 7) (pc' := 73) rfl rfl rfl rfl rfl rfl (fun hf66a hf66b => ?_)
                      refine pw_ald2 I58 E (c := 127) (pc' := 74) rfl rfl rfl (by decide) rfl (by decide) (by omega) (by omega) rfl (fun hf67a hf67b => ?_)
                      refine pw_if E (pc' := 84) rfl (by decide) (by omega) (by omega) ?_ ?_
                      · intro hc68
                        change pw_g gh58 127 ((pw_g gh58 125 7).toNat) = (0 : Int) at hc68
                        have hA58 : pw_g gh58 125 7 ≤ n ∧ 0 ≤ pw_g gh58 125 8 ∧ 0 ≤ pw_g gh58 125 7 ∧ 0 ≤ pw_g gh58 125 32 := hx58_0.2.2
                        have hn1 : n ≤ 1000 := hx58_0.1
                        refine pw_ld E (pc' := 85) (st' := [.ref 141]) rfl (fun _ => rfl) ?_
                        refine pw_getI2 I58 E (c := 125) (k := 8) (pc' := 88) rfl rfl rfl rfl rfl rfl (fun hf69a hf69b => ?_)
                        refine pw_if E (pc' := 96) rfl (by decide) (by omega) (by omega) ?_ ?_
                        · intro hc70
                          change pw_g gh58 125 8 ≤ (0 : Int) at hc70
                          refine pw_ld E (pc' := 97) (st' := [pw_i 0]) rfl (fun _ => rfl) ?_
                          refine pw_istn E (pc' := 98) (ls' := [some (.ref 141), some (pw_i l), some (pw_i 0)]) rfl rfl rfl rfl ?_
                          refine pw_ld E (pc' := 99) (st' := [pw_i 0]) rfl (fun _ => rfl) ?_
                          refine pw_ld E (pc' := 100) (st' := [pw_i 4, pw_i 0]) rfl (fun _ => rfl) ?_
                          refine pw_if2 E (pc' := 128) rfl (by decide) (by decide) (by decide) (by decide) (by decide) ?_ ?_
                          · intro hc71
                            change (4 : Int) ≤ (0 : Int) at hc71
                            exfalso; omega
                          · intro hc72
                            change ¬ ((4 : Int) ≤ (0 : Int)) at hc72
                            refine pw_ld E (pc' := 104) (st' := [.ref 141]) rfl (fun _ => rfl) ?_
                            refine pw_getR (b := 161) I58 E (c := 125) (k := 31) (pc' := 107) rfl rfl rfl rfl rfl rfl rfl ?_
                            refine pw_ld E (pc' := 108) (st' := [pw_i 4, .ref 161]) rfl (fun _ => rfl) ?_
                            refine pw_ld E (pc' := 109) (st' := [pw_i l, pw_i 4, .ref 161]) rfl (fun _ => rfl) ?_
                            refine pw_mul E (pc' := 110) rfl rfl ?_
                            refine pw_ld E (pc' := 111) (st' := [pw_i 0, pw_i (4 * l), .ref 161]) rfl (fun _ => rfl) ?_
                            refine pw_add E (pc' := 112) rfl rfl ?_
                            refine pw_ld E (pc' := 113) (st' := [.ref 141, pw_i ((4 * l) + 0), .ref 161]) rfl (fun _ => rfl) ?_
                            refine pw_getR (b := 161) I58 E (c := 125) (k := 31) (pc' := 116) rfl rfl rfl rfl rfl rfl rfl ?_
                            refine pw_bip E (pc' := 118) rfl rfl (by decide) ?_
                            refine pw_ld E (pc' := 119) (st' := [pw_i 0, pw_i 16, .ref 161, pw_i ((4 * l) + 0), .ref 161]) rfl (fun _ => rfl) ?_
                            refine pw_add E (pc' := 120) rfl rfl ?_
                            refine pw_ald2 I58 E (c := 145) (pc' := 121) rfl rfl rfl (by decide) rfl (by decide) (by omega) (by omega) rfl (fun hf73a hf73b => ?_)
                            refine pw_ast0 I58 E (c := 145) (pc' := 122) rfl rfl rfl (by decide) rfl (by decide) (by omega) (by omega) rfl (by omega) (by omega) (by omega) (by omega) rfl ?_
                            intro h74I h74E
                            generalize h74w : pw_w gh58 145 (((4 * l) + 0).toNat) (pw_i (pw_g gh58 145 (((16 + 0) : Int).toNat))) = h74 at h74I h74E ⊢
                            have h74F := E58.tr (h74E.wk (W' := [125, 127, 128, 129, 145, 146, 147, 1002]) (by first | rfl | simp))
                            refine pw_inc E (pc' := 125) (ls' := [some (.ref 141), some (pw_i l), some (pw_i (0 + 1))]) rfl rfl rfl rfl ?_
                            refine pw_goto E (pc' := 98) rfl (by decide) ?_
                            refine pw_ld E (pc' := 99) (st' := [pw_i (0 + 1)]) rfl (fun _ => rfl) ?_
                            refine pw_ld E (pc' := 100) (st' := [pw_i 4, pw_i (0 + 1)]) rfl (fun _ => rfl) ?_
                            refine pw_if2 E (pc' := 128) rfl (by decide) (by decide) (by decide) (by decide) (by decide) ?_ ?_
                            · intro hc75
                              change (4 : Int) ≤ 0 + 1 at hc75
                              exfalso; omega
                            · intro hc76
                              change ¬ ((4 : Int) ≤ 0 + 1) at hc76
                              refine pw_ld E (pc' := 104) (st' := [.ref 141]) rfl (fun _ => rfl) ?_
                              refine pw_getR (b := 161) h74I E (c := 125) (k := 31) (pc' := 107) rfl rfl rfl rfl rfl rfl rfl ?_
                              refine pw_ld E (pc' := 108) (st' := [pw_i 4, .ref 161]) rfl (fun _ => rfl) ?_
                              refine pw_ld E (pc' := 109) (st' := [pw_i l, pw_i 4, .ref 161]) rfl (fun _ => rfl) ?_
                              refine pw_mul E (pc' := 110) rfl rfl ?_
                              refine pw_ld E (pc' := 111) (st' := [pw_i (0 + 1), pw_i (4 * l), .ref 161]) rfl (fun _ => rfl) ?_
                              refine pw_add E (pc' := 112) rfl rfl ?_
                              refine pw_ld E (pc' := 113) (st' := [.ref 141, pw_i ((4 * l) + (0 + 1)), .ref 161]) rfl (fun _ => rfl) ?_
                              refine pw_getR (b := 161) h74I E (c := 125) (k := 31) (pc' := 116) rfl rfl rfl rfl rfl rfl rfl ?_
                              refine pw_bip E (pc' := 118) rfl rfl (by decide) ?_
                              refine pw_ld E (pc' := 119) (st' := [pw_i (0 + 1), pw_i 16, .ref 161, pw_i ((4 * l) + (0 + 1)), .ref 161]) rfl (fun _ => rfl) ?_
                              refine pw_add E (pc' := 120) rfl rfl ?_
                              refine pw_ald2 h74I E (c := 145) (pc' := 121) rfl rfl rfl (by decide) rfl (by decide) (by omega) (by omega) rfl (fun hf77a hf77b => ?_)
                              refine pw_ast0 h74I E (c := 145) (pc' := 122) rfl rfl rfl (by decide) rfl (by decide) (by omega) (by omega) rfl (by omega) (by omega) (by omega) (by omega) rfl ?_
                              intro h78I h78E
                              generalize h78w : pw_w h74 145 (((4 * l) + (0 + 1)).toNat) (pw_i (pw_g h74 145 (((16 + (0 + 1)) : Int).toNat))) = h78 at h78I h78E ⊢
                              have h78F := h74F.tr (h78E.wk (W' := [125, 127, 128, 129, 145, 146, 147, 1002]) (by first | rfl | simp))
                              refine pw_inc E (pc' := 125) (ls' := [some (.ref 141), some (pw_i l), some (pw_i ((0 + 1) + 1))]) rfl rfl rfl rfl ?_
                              refine pw_goto E (pc' := 98) rfl (by decide) ?_
                              refine pw_ld E (pc' := 99) (st' := [pw_i ((0 + 1) + 1)]) rfl (fun _ => rfl) ?_
                              refine pw_ld E (pc' := 100) (st' := [pw_i 4, pw_i ((0 + 1) + 1)]) rfl (fun _ => rfl) ?_
                              refine pw_if2 E (pc' := 128) rfl (by decide) (by decide) (by decide) (by decide) (by decide) ?_ ?_
                              · intro hc79
                                change (4 : Int) ≤ (0 + 1) + 1 at hc79
                                exfalso; omega
                              · intro hc80
                                change ¬ ((4 : Int) ≤ (0 + 1) + 1) at hc80
                                refine pw_ld E (pc' := 104) (st' := [.ref 141]) rfl (fun _ => rfl) ?_
                                refine pw_getR (b := 161) h78I E (c := 125) (k := 31) (pc' := 107) rfl rfl rfl rfl rfl rfl rfl ?_
                                refine pw_ld E (pc' := 108) (st' := [pw_i 4, .ref 161]) rfl (fun _ => rfl) ?_
                                refine pw_ld E (pc' := 109) (st' := [pw_i l, pw_i 4, .ref 161]) rfl (fun _ => rfl) ?_
                                refine pw_mul E (pc' := 110) rfl rfl ?_
                                refine pw_ld E (pc' := 111) (st' := [pw_i ((0 + 1) + 1), pw_i (4 * l), .ref 161]) rfl (fun _ => rfl) ?_
                                refine pw_add E (pc' := 112) rfl rfl ?_
                                refine pw_ld E (pc' := 113) (st' := [.ref 141, pw_i ((4 * l) + ((0 + 1) + 1)), .ref 161]) rfl (fun _ => rfl) ?_
                                refine pw_getR (b := 161) h78I E (c := 125) (k := 31) (pc' := 116) rfl rfl rfl rfl rfl rfl rfl ?_
                                refine pw_bip E (pc' := 118) rfl rfl (by decide) ?_
                                refine pw_ld E (pc' := 119) (st' := [pw_i ((0 + 1) + 1), pw_i 16, .ref 161, pw_i ((4 * l) + ((0 + 1) + 1)), .ref 161]) rfl (fun _ => rfl) ?_
                                refine pw_add E (pc' := 120) rfl rfl ?_
                                refine pw_ald2 h78I E (c := 145) (pc' := 121) rfl rfl rfl (by decide) rfl (by decide) (by omega) (by omega) rfl (fun hf81a hf81b => ?_)
                                refine pw_ast0 h78I E (c := 145) (pc' := 122) rfl rfl rfl (by decide) rfl (by decide) (by omega) (by omega) rfl (by omega) (by omega) (by omega) (by omega) rfl ?_
                                intro h82I h82E
                                generalize h82w : pw_w h78 145 (((4 * l) + ((0 + 1) + 1)).toNat) (pw_i (pw_g h78 145 (((16 + ((0 + 1) + 1)) : Int).toNat))) = h82 at h82I h82E ⊢
                                have h82F := h78F.tr (h82E.wk (W' := [125, 127, 128, 129, 145, 146, 147, 1002]) (by first | rfl | simp))
                                refine pw_inc E (pc' := 125) (ls' := [some (.ref 141), some (pw_i l), some (pw_i (((0 + 1) + 1) + 1))]) rfl rfl rfl rfl ?_
                                refine pw_goto E (pc' := 98) rfl (by decide) ?_
                                refine pw_ld E (pc' := 99) (st' := [pw_i (((0 + 1) + 1) + 1)]) rfl (fun _ => rfl) ?_
                                refine pw_ld E (pc' := 100) (st' := [pw_i 4, pw_i (((0 + 1) + 1) + 1)]) rfl (fun _ => rfl) ?_
                                refine pw_if2 E (pc' := 128) rfl (by decide) (by decide) (by decide) (by decide) (by decide) ?_ ?_
                                · intro hc83
                                  change (4 : Int) ≤ ((0 + 1) + 1) + 1 at hc83
                                  exfalso; omega
                                · intro hc84
                                  change ¬ ((4 : Int) ≤ ((0 + 1) + 1) + 1) at hc84
                                  refine pw_ld E (pc' := 104) (st' := [.ref 141]) rfl (fun _ => rfl) ?_
                                  refine pw_getR (b := 161) h82I E (c := 125) (k := 31) (pc' := 107) rfl rfl rfl rfl rfl rfl rfl ?_
                                  refine pw_ld E (pc' := 108) (st' := [pw_i 4, .ref 161]) rfl (fun _ => rfl) ?_
                                  refine pw_ld E (pc' := 109) (st' := [pw_i l, pw_i 4, .ref 161]) rfl (fun _ => rfl) ?_
                                  refine pw_mul E (pc' := 110) rfl rfl ?_
                                  refine pw_ld E (pc' := 111) (st' := [pw_i (((0 + 1) + 1) + 1), pw_i (4 * l), .ref 161]) rfl (fun _ => rfl) ?_
                                  refine pw_add E (pc' := 112) rfl rfl ?_
                                  refine pw_ld E (pc' := 113) (st' := [.ref 141, pw_i ((4 * l) + (((0 + 1) + 1) + 1)), .ref 161]) rfl (fun _ => rfl) ?_
                                  refine pw_getR (b := 161) h82I E (c := 125) (k := 31) (pc' := 116) rfl rfl rfl rfl rfl rfl rfl ?_
                                  refine pw_bip E (pc' := 118) rfl rfl (by decide) ?_
                                  refine pw_ld E (pc' := 119) (st' := [pw_i (((0 + 1) + 1) + 1), pw_i 16, .ref 161, pw_i ((4 * l) + (((0 + 1) + 1) + 1)), .ref 161]) rfl (fun _ => rfl) ?_
                                  refine pw_add E (pc' := 120) rfl rfl ?_
                                  refine pw_ald2 h82I E (c := 145) (pc' := 121) rfl rfl rfl (by decide) rfl (by decide) (by omega) (by omega) rfl (fun hf85a hf85b => ?_)
                                  refine pw_ast0 h82I E (c := 145) (pc' := 122) rfl rfl rfl (by decide) rfl (by decide) (by omega) (by omega) rfl (by omega) (by omega) (by omega) (by omega) rfl ?_
                                  intro h86I h86E
                                  generalize h86w : pw_w h82 145 (((4 * l) + (((0 + 1) + 1) + 1)).toNat) (pw_i (pw_g h82 145 (((16 + (((0 + 1) + 1) + 1)) : Int).toNat))) = h86 at h86I h86E ⊢
                                  have h86F := h82F.tr (h86E.wk (W' := [125, 127, 128, 129, 145, 146, 147, 1002]) (by first | rfl | simp))
                                  refine pw_inc E (pc' := 125) (ls' := [some (.ref 141), some (pw_i l), some (pw_i ((((0 + 1) + 1) + 1) + 1))]) rfl rfl rfl rfl ?_
                                  refine pw_goto E (pc' := 98) rfl (by decide) ?_
                                  refine pw_ld E (pc' := 99) (st' := [pw_i ((((0 + 1) + 1) + 1) + 1)]) rfl (fun _ => rfl) ?_
                                  refine pw_ld E (pc' := 100) (st' := [pw_i 4, pw_i ((((0 + 1) + 1) + 1) + 1)]) rfl (fun _ => rfl) ?_
                                  refine pw_if2 E (pc' := 128) rfl (by decide) (by decide) (by decide) (by decide) (by decide) ?_ ?_
                                  · intro hc87
                                    change (4 : Int) ≤ (((0 + 1) + 1) + 1) + 1 at hc87
                                    refine pw_ld E (pc' := 129) (st' := [.ref 141]) rfl (fun _ => rfl) ?_
                                    refine pw_ld E (pc' := 130) (st' := [pw_i l, .ref 141]) rfl (fun _ => rfl) ?_
                                    have he88 : pw_g h86 125 32 = pw_g h82 125 32 := by rw [← h86w]; exact pw_g_ne (by omega)
                                    have he89 : pw_g h82 125 32 = pw_g h78 125 32 := by rw [← h82w]; exact pw_g_ne (by omega)
                                    have he90 : pw_g h78 125 32 = pw_g h74 125 32 := by rw [← h78w]; exact pw_g_ne (by omega)
                                    have he91 : pw_g h74 125 32 = pw_g gh58 125 32 := by rw [← h74w]; exact pw_g_ne (by omega)
                                    obtain ⟨f92l, f92h, -⟩ := pw_obj (c := 125) h86I rfl
                                    refine pw_call (m' := 258) (As := [.ref 141, pw_i l]) (rest := []) (ls'' := [some (.ref 141), some (pw_i l), none]) (Nat.le_trans (by decide) hd) E rfl (fun _ => pw_iV rfl rfl rfl rfl (pw_cellI f92h rfl)) (rfl : pm_ent 258 = some (2, 3, 12, 4, pmc_258)) rfl rfl (cm_258 (pw_dp hd (by decide)) h86I (l) (by omega) (by omega) (by omega) (by omega)) ?_
                                    rintro h93 v94 ⟨h93I, h93E, hqkeep, rfl⟩
                                    refine ⟨_, rfl, ?_⟩
                                    have h93F := h86F.tr (h93E.wk (W' := [125, 127, 128, 129, 145, 146, 147, 1002]) (by first | rfl | simp))
                                    show pw X d h93 237 133 [some (.ref 141), some (pw_i l), some (pw_i ((((0 + 1) + 1) + 1) + 1))] [] _
                                    refine pw_ld E (pc' := 134) (st' := [pw_i 0]) rfl (fun _ => rfl) ?_
                                    refine pw_iret E rfl ?_
                                    have hcp := pw_cp4 (l := l) (by omega) (by omega) I58 h74I h78I h82I h74w h78w h82w h86w
                                    have hl95 : ∀ j : Nat, pw_g h86 146 j = pw_g gh58 146 j := fun j => ((((by rw [← h86w]; exact pw_g_ne (by omega) : pw_g h86 146 j = pw_g h82 146 j)).trans (by rw [← h82w]; exact pw_g_ne (by omega) : pw_g h82 146 j = pw_g h78 146 j)).trans (by rw [← h78w]; exact pw_g_ne (by omega) : pw_g h78 146 j = pw_g h74 146 j)).trans (by rw [← h74w]; exact pw_g_ne (by omega) : pw_g h74 146 j = pw_g gh58 146 j)
                                    have hl96 : ∀ j : Nat, pw_g h86 147 j = pw_g gh58 147 j := fun j => ((((by rw [← h86w]; exact pw_g_ne (by omega) : pw_g h86 147 j = pw_g h82 147 j)).trans (by rw [← h82w]; exact pw_g_ne (by omega) : pw_g h82 147 j = pw_g h78 147 j)).trans (by rw [← h78w]; exact pw_g_ne (by omega) : pw_g h78 147 j = pw_g h74 147 j)).trans (by rw [← h74w]; exact pw_g_ne (by omega) : pw_g h74 147 j = pw_g gh58 147 j)
                                    have hl97 : ∀ j : Nat, pw_g h93 157 j = pw_g gh58 157 j := fun j => (((((pw_Eg (c := 157) h86I h93E rfl rfl j : pw_g h93 157 j = pw_g h86 157 j)).trans (by rw [← h86w]; exact pw_g_ne (by omega) : pw_g h86 157 j = pw_g h82 157 j)).trans (by rw [← h82w]; exact pw_g_ne (by omega) : pw_g h82 157 j = pw_g h78 157 j)).trans (by rw [← h78w]; exact pw_g_ne (by omega) : pw_g h78 157 j = pw_g h74 157 j)).trans (by rw [← h74w]; exact pw_g_ne (by omega) : pw_g h74 157 j = pw_g gh58 157 j)
                                    have hl98 : ∀ j : Nat, pw_g h93 145 j = pw_g h86 145 j := fun j => (pw_Eg (c := 145) h86I h93E rfl rfl j : pw_g h93 145 j = pw_g h86 145 j)
                                    have b9 : pw_g h86 125 32 = pw_g gh58 125 32 := by rw [← h86w, pw_g_ne (by omega), ← h82w, pw_g_ne (by omega), ← h78w, pw_g_ne (by omega), ← h74w, pw_g_ne (by omega)]
                                    have hkc : pw_KC gh58 h93 l (pw_g gh58 125 32) := by rw [← b9]; exact hqkeep.cg hl95 hl96
                                    have cE : pw_E [145, 146, 147] gh58 h93 := (((((h74E.wk (W' := [145, 146, 147]) (by first | rfl | simp)).tr (h78E.wk (W' := [145, 146, 147]) (by first | rfl | simp))).tr (h82E.wk (W' := [145, 146, 147]) (by first | rfl | simp))).tr (h86E.wk (W' := [145, 146, 147]) (by first | rfl | simp))).tr (h93E.wk (W' := [145, 146, 147]) (by first | rfl | simp)))
                                    have hk0 : K (pw_g gh58 125 7).toNat = 0 := by rw [← hx58_4.1]; first | assumption | omega
                                    obtain ⟨-, th, C, N, hTI, hML⟩ := hx58_5.resolve_right (fun q => by have := q.1; omega)
                                    have hRe := hTI.en (by omega) hk0
                                    rw [hRX] at hRe
                                    have hMS := hML.law (l := l) (by omega) (by omega) (by omega) (fun k hk => (hl98 _).trans (hcp.1 k hk)) hkc
                                    have hLO : pt_LO h h93 l := ⟨fun j hj q => ((hl98 _).trans (hcp.2 j q)).trans (hx58_3.1 j hj), fun j q1 q2 => ⟨(hkc.2 j q2).1.trans (hx58_3.2.1 j q1).1, (hkc.2 j q2).2.trans (hx58_3.2.1 j q1).2⟩, fun j => (hl97 j).trans (hx58_3.2.2 j)⟩
                                    have hrel : pw_g h93 125 2 = 0 ∧ (¬ (0 ≤ l ∧ l ≤ 3) → (0 : Int) = -1 ∧ pw_O h h93) ∧ (0 ≤ l → l ≤ 3 → ∃ L : List pt_tok, pt_sg (pw_g h 126) (pw_g h 125 2).toNat 0 L (pw_g h 125 2).toNat ∧ (0 : Int) = (pt_TX 0 L (pw_g h 125 2).toNat).1 ∧ ((0 : Int) ≠ 0 → pw_O h h93) ∧ ((0 : Int) = 0 → pt_MS h93 l (pt_TX 0 L (pw_g h 125 2).toNat).2.1 (pt_TX 0 L (pw_g h 125 2).toNat).2.2.1 ∧ pt_LO h h93 l)) := ⟨(pt_e2 cE rfl).trans hx58_6, fun q => absurd ⟨by omega, by omega⟩ q, fun _ _ => ⟨L, hsg, by rw [hRe], fun q => absurd rfl q, fun _ => ⟨by rw [hRe]; exact hMS, hLO⟩⟩⟩
                                    exact ⟨h93I, h93F, (hp0.of hx58_3.1 hx58_3.2.1 hx58_3.2.2).law (by omega) (by omega) (hx58_2 (by omega)) (by omega) (fun k hk => (hl98 _).trans (hcp.1 k hk)) (fun j _ hj => (hl98 _).trans (hcp.2 j hj)) hkc hl97, ⟨_, rfl, by omega, by omega, hrel⟩⟩
                                  · intro hc99
                                    change ¬ ((4 : Int) ≤ (((0 + 1) + 1) + 1) + 1) at hc99
                                    exfalso; omega
                        · intro hc100
                          change ¬ (pw_g gh58 125 8 ≤ (0 : Int)) at hc100
                          exfalso; omega
                      · intro hc101
                        change ¬ (pw_g gh58 127 ((pw_g gh58 125 7).toNat) = (0 : Int)) at hc101
                        have hA58 : pw_g gh58 125 7 ≤ n ∧ 0 ≤ pw_g gh58 125 8 ∧ 0 ≤ pw_g gh58 125 7 ∧ 0 ≤ pw_g gh58 125 32 := hx58_0.2.2
                        refine pw_ld E (pc' := 78) (st' := [.ref 141]) rfl (fun _ => rfl) ?_
                        have hk0 : K (pw_g gh58 125 7).toNat ≠ 0 := by rw [← hx58_4.1]; first | assumption | omega
                        obtain ⟨-, th, C, N, hTI, hML⟩ := hx58_5.resolve_right (fun q => by have := q.1; omega)
                        obtain ⟨f102l, f102h, -⟩ := pw_obj (c := 125) I58 rfl
                        refine pw_call (m' := 243) (As := [.ref 141]) (rest := []) (ls'' := [some (.ref 141), none, none]) (Nat.le_trans (by decide) hd) E rfl (fun _ => pw_iV rfl rfl rfl rfl (pw_cellI f102h rfl)) (rfl : pm_ent 243 = some (1, 3, 12, 4, pmc_243)) rfl rfl (pw_and (cm_243 (pw_dp hd (by decide)) I58 hx58_0 (by omega) hx58_2) (cm_243_t (by omega) I58 n K V P th C hx58_0 (by omega) hx58_4 hnv (by omega) hk0 hML)) ?_
                        rintro h103 v104 ⟨⟨h103I, h103E, ⟨rA, rQ, rL, r5⟩, rfl⟩, ⟨-, -, ⟨rT, rX⟩, -⟩⟩
                        refine ⟨_, rfl, ?_⟩
                        have h103F := E58.tr (h103E.wk (W' := [125, 127, 128, 129, 145, 146, 147, 1002]) (by first | rfl | simp))
                        have rf : pw_g h103 125 7 ≤ n ∧ 0 ≤ pw_g h103 125 8 ∧ 0 ≤ pw_g h103 125 7 ∧ 0 ≤ pw_g h103 125 32 := rA.2.2
                        have rq : pw_g gh58 125 7 - pw_g gh58 125 32 + 0 ≤ pw_g h103 125 7 - pw_g h103 125 32 ∧ pw_g gh58 125 7 ≤ pw_g h103 125 7 := ⟨rQ.2.2.2.1, rQ.2.1⟩
                        have rp : pw_g h103 125 8 = 0 → pw_g gh58 125 7 < pw_g h103 125 7 := fun q => (rL q).2
                        have rO : pw_O gh58 h103 := pw_O.q (by omega) rQ r5 (pw_Eg (c := 157) I58 h103E rfl rfl)
                        have r2 : pw_g h103 125 2 = 0 := (pt_e2 h103E rfl).trans hx58_6
                        have hst := hTI.st (by omega) hk0
                        have rR : pt_RS 0 K V P n R h103 := by
                          rcases rX with ⟨q, e⟩ | ⟨q, e, e7, m⟩
                          · exact Or.inr ⟨q, by rw [hst.1 (by rw [e]; exact q)]; exact e⟩
                          · have hs2 := hst.2 e (by rw [← e7]; exact rp q)
                            rw [← e7] at hs2
                            exact Or.inl ⟨q, _, _, _, hs2, m⟩
                        clear rX hst
                        show pw X d h103 237 81 [some (.ref 141), some (pw_i l), some (pw_i ((((0 + 1) + 1) + 1) + 1))] [] _
                        refine pw_goto E (pc' := 58) rfl (by decide) ?_
                        exact ih58 _ (by omega)  h103 h103I h103F  rA (by omega) (fun q => (rL q).1) (hx58_3.tr rO) rT rR r2 rfl
                have he105 : pw_g h23 125 7 = pw_g h20 125 7 := by rw [← h23w]; exact pw_g_ne (by omega)
                have he106 : pw_g h20 125 7 = pw_g h17 125 7 := by rw [← h20w]; exact pw_g_ne (by omega)
                have he107 : pw_g h17 125 7 = pw_g h14 125 7 := by rw [← h17w]; exact pw_g_ne (by omega)
                have he108 : pw_g h14 125 7 = pw_g h11 125 7 := by rw [← h14w]; exact pw_g_ne (by omega)
                have he109 : pw_g h11 125 7 = pw_g h10 125 7 := by rw [← h11w]; exact pw_g_ne (by omega)
                have he110 : pw_g h10 125 7 = pw_g h8 125 7 := by rw [← h10w]; exact pw_g_ne (by omega)
                have he111 : pw_g h23 125 8 = pw_g h20 125 8 := by rw [← h23w]; exact pw_g_ne (by omega)
                have he112 : pw_g h20 125 8 = pw_g h17 125 8 := by rw [← h20w]; exact pw_g_ne (by omega)
                have he113 : pw_g h17 125 8 = pw_g h14 125 8 := by rw [← h17w]; exact pw_g_ne (by omega)
                have he114 : pw_g h14 125 8 = pw_g h11 125 8 := by rw [← h14w]; exact pw_g_ne (by omega)
                have he115 : pw_g h11 125 8 = pw_g h10 125 8 := by rw [← h11w]; exact pw_g_ne (by omega)
                have he116 : pw_g h10 125 8 = pw_g h8 125 8 := by rw [← h10w]; exact pw_g_ne (by omega)
                have he117 : pw_g h23 125 32 = pw_g h20 125 32 := by rw [← h23w]; exact pw_g_ne (by omega)
                have he118 : pw_g h20 125 32 = pw_g h17 125 32 := by rw [← h20w]; exact pw_g_ne (by omega)
                have he119 : pw_g h17 125 32 = pw_g h14 125 32 := by rw [← h17w]; exact pw_g_ne (by omega)
                have he120 : pw_g h14 125 32 = pw_g h11 125 32 := by rw [← h14w]; exact pw_g_ne (by omega)
                have he121 : pw_g h11 125 32 = pw_g h10 125 32 := by rw [← h11w]; exact pw_g_ne (by omega)
                have he122 : pw_g h10 125 32 = 0 := by rw [← h10w]; exact pw_g_eq (c := 125) (k := 32) h8I rfl rfl (by omega) (by omega)
                exact L58 _  h23 h23I h23F  bA (by omega) (fun _ => bL) bO bT bR b2 rfl
              · intro hc123
                change ¬ ((4 : Int) ≤ (((0 + 1) + 1) + 1) + 1) at hc123
                exfalso; omega
    · intro hc124
      change ¬ (x4 ≠ (0 : Int)) at hc124
      exfalso; omega
  · skip
    refine pw_if E (pc' := 21) rfl (by decide) (by omega) (by omega) ?_ ?_
    · intro hc126
      change x4 ≠ (0 : Int) at hc126
      exfalso; omega
    · intro hc127
      change ¬ (x4 ≠ (0 : Int)) at hc127
      refine pw_ld E (pc' := 15) (st' := [.ref 141]) rfl (fun _ => rfl) ?_
      refine pw_ld E (pc' := 16) (st' := [pw_i 0, .ref 141]) rfl (fun _ => rfl) ?_
      refine pw_putP h1I E (k := 2) (pc' := 19) rfl rfl rfl rfl (by omega) (by omega) (by omega) (by omega) rfl rfl ?_
      intro h128I h128E
      generalize h128w : pw_w h1 125 2 (pw_i 0) = h128 at h128I h128E ⊢
      have h128F := h1F.tr (h128E.wk (W' := [125, 127, 128, 129, 145, 146, 147, 1002]) (by first | rfl | simp))
      refine pw_ld E (pc' := 20) (st' := [pw_i ((-1))]) rfl (fun _ => rfl) ?_
      refine pw_iret E rfl ?_
      have hl129 : ∀ j : Nat, pw_g h128 145 j = pw_g h 145 j := fun j => ((by rw [← h128w]; exact pw_g_ne (by omega) : pw_g h128 145 j = pw_g h1 145 j)).trans (by rw [← h1w]; exact pw_g_ne (by omega) : pw_g h1 145 j = pw_g h 145 j)
      have hl130 : ∀ j : Nat, pw_g h128 146 j = pw_g h 146 j := fun j => ((by rw [← h128w]; exact pw_g_ne (by omega) : pw_g h128 146 j = pw_g h1 146 j)).trans (by rw [← h1w]; exact pw_g_ne (by omega) : pw_g h1 146 j = pw_g h 146 j)
      have hl131 : ∀ j : Nat, pw_g h128 147 j = pw_g h 147 j := fun j => ((by rw [← h128w]; exact pw_g_ne (by omega) : pw_g h128 147 j = pw_g h1 147 j)).trans (by rw [← h1w]; exact pw_g_ne (by omega) : pw_g h1 147 j = pw_g h 147 j)
      have hl132 : ∀ j : Nat, pw_g h128 157 j = pw_g h 157 j := fun j => ((by rw [← h128w]; exact pw_g_ne (by omega) : pw_g h128 157 j = pw_g h1 157 j)).trans (by rw [← h1w]; exact pw_g_ne (by omega) : pw_g h1 157 j = pw_g h 157 j)
      have ht2 : pw_g h128 125 2 = 0 := by rw [← h128w]; exact pw_g_eq (c := 125) (k := 2) h1I rfl rfl (by omega) (by omega)
      have hrel : pw_g h128 125 2 = 0 ∧ (¬ (0 ≤ l ∧ l ≤ 3) → (-1 : Int) = -1 ∧ pw_O h h128) ∧ (0 ≤ l → l ≤ 3 → ∃ L : List pt_tok, pt_sg (pw_g h 126) (pw_g h 125 2).toNat 0 L (pw_g h 125 2).toNat ∧ (-1 : Int) = (pt_TX 0 L (pw_g h 125 2).toNat).1 ∧ ((-1 : Int) ≠ 0 → pw_O h h128) ∧ ((-1 : Int) = 0 → pt_MS h128 l (pt_TX 0 L (pw_g h 125 2).toNat).2.1 (pt_TX 0 L (pw_g h 125 2).toNat).2.2.1 ∧ pt_LO h h128 l)) := ⟨ht2, fun _ => ⟨rfl, fun j _ => hl129 j, fun j _ => ⟨hl130 j, hl131 j⟩, hl132⟩, fun q1 q2 => by exfalso; omega⟩
      exact ⟨h128I, h128F, hp0.cg hl129 hl130 hl131 hl132, ⟨_, rfl, by omega, by omega, hrel⟩⟩
end
section
/-! texts: a writer's lines as the model keeps them -/
theorem pt_FOw (w : Int) : (w = 0 ∧ pt_FO 1 w = -2) ∨ (w = 3 ∧ pt_FO 1 w = 10) ∨ (w ≠ 0 ∧ w ≠ 3 ∧ pt_FO 1 w = 11) := by
  unfold pt_FO
  rw [if_neg (by decide)]
  by_cases a : w = 0
  · rw [if_pos a]; exact Or.inl ⟨a, rfl⟩
  · rw [if_neg a]
    by_cases b : w = 3
    · rw [if_pos b]; exact Or.inr (Or.inl ⟨b, rfl⟩)
    · rw [if_neg b]; exact Or.inr (Or.inr ⟨a, b, rfl⟩)
def pt_MW (h : pm_H) (th : Int → Int) (C : Int → List Int) (N : Int → Int) : Prop := ∀ k : Int, 0 ≤ k → k ≤ 3 → (th k = 1 ∧ 0 ≤ pw_g h 161 k.toNat ∧ (k = 0 → pt_SG h (pw_g h 161 0) (C 0)) ∧ (k ≠ 0 → pw_g h 161 k.toNat = N k)) ∨ (th k = 0 ∧ pw_g h 161 k.toNat < 0)
/-- a line more, the codes that stood stay -/
theorem pt_MW.add {h g : pm_H} {th : Int → Int} {C : Int → List Int} {N : Int → Int} {w v x : Int} {c : List Int} (H : pt_MW h th C N) (w0 : 0 ≤ w) (w3 : w ≤ 3) (e1 : ∀ k : Nat, k ≠ w.toNat → pw_g g 161 k = pw_g h 161 k) (e2 : pw_g g 161 w.toNat = v) (v0 : 0 ≤ v) (hs : ∀ j : Nat, (j : Int) < 4400 + pw_g h 125 32 → pw_g g 146 j = pw_g h 146 j ∧ pw_g g 147 j = pw_g h 147 j) (sg : w = 0 → pt_SG g v c) (nm : w ≠ 0 → v = x) (hc : pw_g h 125 32 ≤ pw_g g 125 32) : pt_MW g (fun k => if k = w then 1 else th k) (fun k => if k = w then c else C k) (fun k => if k = w then x else N k) := by
  intro k h0 h3
  dsimp only
  by_cases q : k = w
  · subst q
    rw [if_pos rfl, if_pos rfl, e2]
    refine Or.inl ⟨rfl, v0, fun z => ?_, nm⟩
    have e3 : pw_g g 161 0 = v := by rw [← e2, z]; rfl
    rw [e3, if_pos z.symm]
    exact sg z
  · rw [if_neg q, if_neg q, e1 _ (by omega)]
    rcases H k h0 h3 with ⟨a1, a2, a3, a4⟩ | a
    · refine Or.inl ⟨a1, a2, fun z => ?_, a4⟩
      obtain ⟨b3, b4, b5⟩ := a3 z
      rw [z] at a2
      have a2 : 0 ≤ pw_g h 161 0 := a2
      rw [if_neg (fun y => q (by omega)), e1 0 (by omega)]
      refine ⟨b3.cg (fun j hj => hs _ (by omega)), ?_, by omega⟩
      rw [(hs _ (by omega)).1]
      exact b4
    · exact Or.inr a
/-- how the reading of a writer's lines stands -/
def pt_RW (K V P : Nat → Int) (n : Nat) (R : pt_TR) (g : pm_H) : Prop := (pw_g g 125 8 = 0 ∧ ∃ (th : Int → Int) (C : Int → List Int) (N : Int → Int), pt_TI 1 K V P n (pw_g g 125 7) th C N R ∧ pt_MW g th C N) ∨ (pw_g g 125 8 ≠ 0 ∧ R.1 = pw_g g 125 8)
theorem pt_RW.z {K V P : Nat → Int} {n : Nat} {g : pm_H} (z8 : pw_g g 125 8 = 0) (z7 : pw_g g 125 7 = 0) (a0 : pw_g g 161 0 = -1) (a1 : pw_g g 161 1 = -1) (a2 : pw_g g 161 2 = -1) (a3 : pw_g g 161 3 = -1) : pt_RW K V P n (pt_text 1 K V P (n + 1) 0 (fun _ => 0) (fun _ => []) (fun _ => 0)) g := by
  refine Or.inl ⟨z8, fun _ => 0, fun _ => [], fun _ => 0, ⟨n + 1, by omega, by rw [z7]⟩, fun k k0 k3 => Or.inr ⟨rfl, ?_⟩⟩
  rcases (by omega : k = 0 ∨ k = 1 ∨ k = 2 ∨ k = 3) with rfl | rfl | rfl | rfl
  · exact (show pw_g g 161 0 < 0 by omega)
  · exact (show pw_g g 161 1 < 0 by omega)
  · exact (show pw_g g 161 2 < 0 by omega)
  · exact (show pw_g g 161 3 < 0 by omega)
end
section
/-! a writer's line of the model, exactly -/
set_option maxHeartbeats 4000000 in
theorem cm_279_t {X : List (Nat × List Value)} {d : Nat} {h : pm_H} (hd : 33 ≤ d) (I : pw_I h) (n : Nat) (K V P : Nat → Int) (th : Int → Int) (C : Int → List Int) (N : Int → Int) (hp0 : pw_A n h) (hp1 : pw_g h 125 32 ≤ pw_g h 125 7) (hp2 : pt_TK K V P 1 h) (hp3 : ∀ j : Nat, j < n → K j = 2 → 0 ≤ V j ∧ V j ≤ 9999) (hp4 : pw_g h 125 8 = 0) (hp5 : K (pw_g h 125 7).toNat ≠ 0) (hp6 : pt_MW h th C N) : pw X d h 279 0 [some (.ref 141), none, none] [] (fun h' v => pw_I h' ∧ pw_E [125, 146, 147, 161] h h' ∧ (pt_TK K V P 1 h' ∧ ((pw_g h' 125 8 ≠ 0 ∧ (pt_line 1 K V P th (pw_g h 125 7).toNat).1 = pw_g h' 125 8) ∨ (pw_g h' 125 8 = 0 ∧ (pt_line 1 K V P th (pw_g h 125 7).toNat).1 = 0 ∧ pw_g h' 125 7 = (pt_line 1 K V P th (pw_g h 125 7).toNat).2.1 ∧ pt_MW h' (fun k => if k = (pt_line 1 K V P th (pw_g h 125 7).toNat).2.2.1 then 1 else th k) (fun k => if k = (pt_line 1 K V P th (pw_g h 125 7).toNat).2.2.1 then (pt_line 1 K V P th (pw_g h 125 7).toNat).2.2.2.1 else C k) (fun k => if k = (pt_line 1 K V P th (pw_g h 125 7).toNat).2.2.1 then (pt_line 1 K V P th (pw_g h 125 7).toNat).2.2.2.2 else N k)))) ∧ (v = .inl none)) := by
  have E : pm_ent 279 = some (1, 3, 12, 4, pmc_279) := rfl
  have E0 : pw_E [125, 146, 147, 161] h h := pw_E.rf _ _
  have hn1 : n ≤ 1000 := hp0.1
  have hA0 := hp0.2.2
  refine pw_ld E (pc' := 1) (st' := [pw_i ((-1))]) rfl (fun _ => rfl) ?_
  refine pw_istn E (pc' := 2) (ls' := [some (.ref 141), some (pw_i ((-1))), none]) rfl rfl rfl rfl ?_
  refine pw_ld E (pc' := 3) (st' := [pw_i 0]) rfl (fun _ => rfl) ?_
  refine pw_istn E (pc' := 4) (ls' := [some (.ref 141), some (pw_i ((-1))), some (pw_i 0)]) rfl rfl rfl rfl ?_
  have L4 : ∀ (n4 : Nat) (k4_1 : Int) (k4_2 : Int), (-1) ≤ k4_1 → k4_1 ≤ 3 → 0 ≤ k4_2 → k4_2 ≤ 4 → pt_fI (pw_g h 125 8) (K (pw_g h 125 7).toNat) (fun k => pt_wc (18 + k)) (V (pw_g h 125 7).toNat) (k4_2) (k4_1) → (4 - k4_2).toNat = n4 → pw X d h 279 4 [some (.ref 141), some (pw_i k4_1), some (pw_i k4_2)] [] (fun h' v => pw_I h' ∧ pw_E [125, 146, 147, 161] h h' ∧ (pt_TK K V P 1 h' ∧ ((pw_g h' 125 8 ≠ 0 ∧ (pt_line 1 K V P th (pw_g h 125 7).toNat).1 = pw_g h' 125 8) ∨ (pw_g h' 125 8 = 0 ∧ (pt_line 1 K V P th (pw_g h 125 7).toNat).1 = 0 ∧ pw_g h' 125 7 = (pt_line 1 K V P th (pw_g h 125 7).toNat).2.1 ∧ pt_MW h' (fun k => if k = (pt_line 1 K V P th (pw_g h 125 7).toNat).2.2.1 then 1 else th k) (fun k => if k = (pt_line 1 K V P th (pw_g h 125 7).toNat).2.2.1 then (pt_line 1 K V P th (pw_g h 125 7).toNat).2.2.2.1 else C k) (fun k => if k = (pt_line 1 K V P th (pw_g h 125 7).toNat).2.2.1 then (pt_line 1 K V P th (pw_g h 125 7).toNat).2.2.2.2 else N k)))) ∧ (v = .inl none)) := by
    intro n4
    induction n4 using Nat.strongRecOn with
    | ind n4 ih4 =>
      intro k4_1 k4_2 k4_1a k4_1b k4_2a k4_2b hx4_0 hm4
      refine pw_ld E (pc' := 5) (st' := [pw_i k4_2]) rfl (fun _ => rfl) ?_
      refine pw_ld E (pc' := 6) (st' := [pw_i 4, pw_i k4_2]) rfl (fun _ => rfl) ?_
      refine pw_if2 E (pc' := 32) rfl (by decide) (by omega) (by omega) (by decide) (by decide) ?_ ?_
      · intro hc1
        change (4 : Int) ≤ k4_2 at hc1
        have hw : pt_wo 1 K V (pw_g h 125 7).toNat = k4_1 := by
          rw [show k4_2 = 4 by omega] at hx4_0
          unfold pt_wo pt_LW
          rw [if_neg (show ¬ (1 : Int) = 0 by decide)]
          by_cases q : K (pw_g h 125 7).toNat = 1
          · rw [if_pos q]; exact (hx4_0.1 ⟨hp4, q⟩).symm
          · rw [if_neg q]; exact (hx4_0.2 (fun z => q z.2)).symm
        have hat0 : (((pw_g h 125 7).toNat : Nat) : Int) = pw_g h 125 7 := by omega
        refine pw_ld E (pc' := 33) (st' := [pw_i k4_1]) rfl (fun _ => rfl) ?_
        refine pw_if E (pc' := 44) rfl (by decide) (by omega) (by omega) ?_ ?_
        · intro hc2
          change (0 : Int) ≤ k4_1 at hc2
          have hml := hp6 k4_1 (by omega) (by omega)
          refine pw_ld E (pc' := 45) (st' := [.ref 141]) rfl (fun _ => rfl) ?_
          refine pw_getR (b := 177) I E (c := 125) (k := 50) (pc' := 48) rfl rfl rfl rfl rfl rfl rfl ?_
          refine pw_ld E (pc' := 49) (st' := [pw_i k4_1, .ref 177]) rfl (fun _ => rfl) ?_
          refine pw_ald2 I E (c := 161) (pc' := 50) rfl rfl rfl (by decide) rfl (by decide) (by omega) (by omega) rfl (fun hf3a hf3b => ?_)
          refine pw_if E (pc' := 58) rfl (by decide) (by omega) (by omega) ?_ ?_
          · intro hc4
            change pw_g h 161 (k4_1.toNat) < (0 : Int) at hc4
            have hth : th k4_1 = 0 := by rcases hml with ⟨-, q, -⟩ | ⟨q, -⟩ <;> first | exact q | omega
            refine pw_ld E (pc' := 59) (st' := [.ref 141]) rfl (fun _ => rfl) ?_
            refine pw_getI2 I E (c := 125) (k := 8) (pc' := 62) rfl rfl rfl rfl rfl rfl (fun hf5a hf5b => ?_)
            refine pw_if E (pc' := 66) rfl (by decide) (by omega) (by omega) ?_ ?_
            · intro hc6
              change pw_g h 125 8 ≤ (0 : Int) at hc6
              have hk1 : K (pw_g h 125 7).toNat = 1 := Classical.byContradiction (fun q => by have z : pt_wo 1 K V (pw_g h 125 7).toNat = -1 := if_neg q; omega)
              have hlt := pw_A.lt hp0 (by rw [hp2.1, hk1]; decide)
              refine pw_ld E (pc' := 67) (st' := [.ref 141]) rfl (fun _ => rfl) ?_
              refine pw_ld E (pc' := 68) (st' := [.ref 141, .ref 141]) rfl (fun _ => rfl) ?_
              refine pw_getI2 I E (c := 125) (k := 7) (pc' := 71) rfl rfl rfl rfl rfl rfl (fun hf7a hf7b => ?_)
              refine pw_ld E (pc' := 72) (st' := [pw_i 1, pw_i (pw_g h 125 7), .ref 141]) rfl (fun _ => rfl) ?_
              refine pw_add E (pc' := 73) rfl rfl ?_
              refine pw_putI I E (c := 125) (k := 7) (pc' := 76) rfl rfl rfl rfl (by omega) (by omega) (by omega) (by omega) rfl rfl ?_
              intro h8I h8E
              generalize h8w : pw_w h 125 7 (pw_i ((pw_g h 125 7) + 1)) = h8 at h8I h8E ⊢
              have h8F := E0.tr (h8E.wk (W' := [125, 146, 147, 161]) (by first | rfl | simp))
              have h87 : pw_g h8 125 7 = pw_g h 125 7 + 1 := by rw [← h8w]; exact pw_g_eq (c := 125) (k := 7) I rfl rfl (by omega) (by omega)
              have h88 : pw_g h8 125 8 = pw_g h 125 8 := by rw [← h8w]; exact pw_g_ne (by omega)
              have h832 : pw_g h8 125 32 = pw_g h 125 32 := by rw [← h8w]; exact pw_g_ne (by omega)
              have h845 : pw_g h8 125 45 = pw_g h 125 45 := by rw [← h8w]; exact pw_g_ne (by omega)
              have tAw : pw_A n h8 := ⟨hn1, by rw [pw_Eg (c := 127) I h8E rfl rfl]; exact hp0.2.1, by omega, by omega, by omega, by omega⟩
              have tTw : pt_TK K V P 1 h8 := pt_TK.E I h8E hp2 rfl (by omega)
              have hq1 : pw_g h8 125 7 = pw_g h 125 7 + 1 := by omega
              have hc1 : pw_g h8 125 32 = pw_g h 125 32 := by omega
              have hz1 : pw_g h8 125 8 = 0 := by omega
              refine pw_ld E (pc' := 77) (st' := [pw_i k4_1]) rfl (fun _ => rfl) ?_
              refine pw_if E (pc' := 109) rfl (by decide) (by omega) (by omega) ?_ ?_
              · intro hc9
                change k4_1 ≠ (0 : Int) at hc9
                have e1 : (pw_g h8 125 7).toNat = (pw_g h 125 7).toNat + 1 := by omega
                have hK1 : pw_g h8 127 (pw_g h8 125 7).toNat = K ((pw_g h 125 7).toNat + 1) := by rw [tTw.1, e1]
                have hPn := pw_gA (c := 128) (j := pw_g h8 125 7) h8I rfl (by decide) (by omega) (by omega)
                have hP1 : pw_g h8 128 (pw_g h8 125 7).toNat = P ((pw_g h 125 7).toNat + 1) := by rw [tTw.2.2.1, e1]
                refine pw_ld E (pc' := 110) (st' := [.ref 141]) rfl (fun _ => rfl) ?_
                refine pw_getR (b := 143) h8I E (c := 125) (k := 4) (pc' := 113) rfl rfl rfl rfl rfl rfl rfl ?_
                refine pw_ld E (pc' := 114) (st' := [.ref 141, .ref 143]) rfl (fun _ => rfl) ?_
                refine pw_getI2 h8I E (c := 125) (k := 7) (pc' := 117) rfl rfl rfl rfl rfl rfl (fun hf10a hf10b => ?_)
                refine pw_ald2 h8I E (c := 127) (pc' := 118) rfl rfl rfl (by decide) rfl (by decide) (by omega) (by omega) rfl (fun hf11a hf11b => ?_)
                refine pw_ld E (pc' := 119) (st' := [pw_i 2, pw_i (pw_g h8 127 ((pw_g h8 125 7).toNat))]) rfl (fun _ => rfl) ?_
                refine pw_if2 E (pc' := 130) rfl (by decide) (by omega) (by omega) (by decide) (by decide) ?_ ?_
                · intro hc12
                  change pw_g h8 127 ((pw_g h8 125 7).toNat) = (2 : Int) at hc12
                  have hV1 : pw_gm h8 129 ((pw_g h8 125 7).toNat) = V ((pw_g h 125 7).toNat + 1) := by rw [tTw.2.1, e1]
                  have hl2 : pw_g h8 125 7 < n := pw_A.lt tAw (by omega)
                  have hvr := hp3 ((pw_g h 125 7).toNat + 1) (by omega) (by omega)
                  refine pw_ld E (pc' := 131) (st' := [.ref 141]) rfl (fun _ => rfl) ?_
                  refine pw_getR (b := 145) h8I E (c := 125) (k := 6) (pc' := 134) rfl rfl rfl rfl rfl rfl rfl ?_
                  refine pw_ld E (pc' := 135) (st' := [.ref 141, .ref 145]) rfl (fun _ => rfl) ?_
                  refine pw_getI2 h8I E (c := 125) (k := 7) (pc' := 138) rfl rfl rfl rfl rfl rfl (fun hf13a hf13b => ?_)
                  refine pw_laldM h8I E (c := 129) (pc' := 139) rfl rfl rfl (by decide) (by omega) (by omega) rfl ?_
                  refine pw_ld E (pc' := 140) (st' := [pw_i k4_1, .long (Int64.ofInt (pw_gm h8 129 ((pw_g h8 125 7).toNat)))]) rfl (fun _ => rfl) ?_
                  refine pw_ld E (pc' := 141) (st' := [pw_i 3, pw_i k4_1, .long (Int64.ofInt (pw_gm h8 129 ((pw_g h8 125 7).toNat)))]) rfl (fun _ => rfl) ?_
                  refine pw_if2 E (pc' := 150) rfl (by decide) (by omega) (by omega) (by decide) (by decide) ?_ ?_
                  · intro hc14
                    change k4_1 ≠ (3 : Int) at hc14
                    refine pw_ld E (pc' := 153) (st' := [.long (Int64.ofInt 11), .long (Int64.ofInt (pw_gm h8 129 ((pw_g h8 125 7).toNat)))]) rfl (fun _ => rfl) ?_
                    refine pw_lcmpC E (pc' := 154) rfl rfl (by omega) (by omega) (by omega) (by omega) (fun c15 hc15 => ?_)
                    refine pw_if E (pc' := 165) rfl (by decide) (by omega) (by omega) ?_ ?_
                    · intro hc16
                      change c15 ≤ (0 : Int) at hc16
                      have hb161 : ∀ j : Nat, pw_g h8 161 j = pw_g h 161 j := fun j => by rw [← h8w, pw_g_ne (by omega)]
                      have hb146 : ∀ j : Nat, pw_g h8 146 j = pw_g h 146 j := fun j => by rw [← h8w, pw_g_ne (by omega)]
                      have hb147 : ∀ j : Nat, pw_g h8 147 j = pw_g h 147 j := fun j => by rw [← h8w, pw_g_ne (by omega)]
                      refine pw_ld E (pc' := 166) (st' := [.ref 141]) rfl (fun _ => rfl) ?_
                      refine pw_getR (b := 177) h8I E (c := 125) (k := 50) (pc' := 169) rfl rfl rfl rfl rfl rfl rfl ?_
                      refine pw_ld E (pc' := 170) (st' := [pw_i k4_1, .ref 177]) rfl (fun _ => rfl) ?_
                      refine pw_ld E (pc' := 171) (st' := [.ref 141, pw_i k4_1, .ref 177]) rfl (fun _ => rfl) ?_
                      refine pw_getR (b := 145) h8I E (c := 125) (k := 6) (pc' := 174) rfl rfl rfl rfl rfl rfl rfl ?_
                      refine pw_ld E (pc' := 175) (st' := [.ref 141, .ref 145, pw_i k4_1, .ref 177]) rfl (fun _ => rfl) ?_
                      refine pw_getI2 h8I E (c := 125) (k := 7) (pc' := 178) rfl rfl rfl rfl rfl rfl (fun hf17a hf17b => ?_)
                      refine pw_laldM h8I E (c := 129) (pc' := 179) rfl rfl rfl (by decide) (by omega) (by omega) rfl ?_
                      refine pw_l2iC E (pc' := 180) rfl rfl ?_
                      refine pw_ast0 h8I E (c := 161) (pc' := 181) rfl rfl rfl (by decide) rfl (by decide) (by omega) (by omega) rfl (by omega) (by omega) (by omega) (by omega) rfl ?_
                      intro h18I h18E
                      generalize h18w : pw_w h8 161 (k4_1.toNat) (pw_i (pw_gm h8 129 ((pw_g h8 125 7).toNat))) = h18 at h18I h18E ⊢
                      have h18F := h8F.tr (h18E.wk (W' := [125, 146, 147, 161]) (by first | rfl | simp))
                      have h187 : pw_g h18 125 7 = pw_g h8 125 7 := by rw [← h18w]; exact pw_g_ne (by omega)
                      have h188 : pw_g h18 125 8 = pw_g h8 125 8 := by rw [← h18w]; exact pw_g_ne (by omega)
                      have h1832 : pw_g h18 125 32 = pw_g h8 125 32 := by rw [← h18w]; exact pw_g_ne (by omega)
                      have h1845 : pw_g h18 125 45 = pw_g h8 125 45 := by rw [← h18w]; exact pw_g_ne (by omega)
                      have tAl : pw_A n h18 := ⟨hn1, by rw [pw_Eg (c := 127) h8I h18E rfl rfl]; exact tAw.2.1, by omega, by omega, by omega, by omega⟩
                      have tTl : pt_TK K V P 1 h18 := pt_TK.E h8I h18E tTw rfl (by omega)
                      have l1 : pw_g h18 161 k4_1.toNat = pw_gm h8 129 ((pw_g h8 125 7).toNat) := by rw [← h18w, show k4_1.toNat = k4_1.toNat by omega]; exact pw_g_eqA h8I rfl (by omega) (by omega) (by omega)
                      have l2 : ∀ j : Nat, j ≠ k4_1.toNat → pw_g h18 161 j = pw_g h8 161 j := fun j hj => by rw [← h18w]; exact pw_g_ne (by omega)
                      have l3 : ∀ j : Nat, pw_g h18 146 j = pw_g h8 146 j ∧ pw_g h18 147 j = pw_g h8 147 j := fun j => ⟨by rw [← h18w]; exact pw_g_ne (by omega), by rw [← h18w]; exact pw_g_ne (by omega)⟩
                      refine pw_ld E (pc' := 182) (st' := [.ref 141]) rfl (fun _ => rfl) ?_
                      refine pw_ld E (pc' := 183) (st' := [.ref 141, .ref 141]) rfl (fun _ => rfl) ?_
                      refine pw_getI2 h18I E (c := 125) (k := 7) (pc' := 186) rfl rfl rfl rfl rfl rfl (fun hf19a hf19b => ?_)
                      refine pw_ld E (pc' := 187) (st' := [pw_i 1, pw_i (pw_g h18 125 7), .ref 141]) rfl (fun _ => rfl) ?_
                      refine pw_add E (pc' := 188) rfl rfl ?_
                      refine pw_putI h18I E (c := 125) (k := 7) (pc' := 191) rfl rfl rfl rfl (by omega) (by omega) (by omega) (by omega) rfl rfl ?_
                      intro h20I h20E
                      generalize h20w : pw_w h18 125 7 (pw_i ((pw_g h18 125 7) + 1)) = h20 at h20I h20E ⊢
                      have h20F := h18F.tr (h20E.wk (W' := [125, 146, 147, 161]) (by first | rfl | simp))
                      have h207 : pw_g h20 125 7 = pw_g h18 125 7 + 1 := by rw [← h20w]; exact pw_g_eq (c := 125) (k := 7) h18I rfl rfl (by omega) (by omega)
                      have h208 : pw_g h20 125 8 = pw_g h18 125 8 := by rw [← h20w]; exact pw_g_ne (by omega)
                      have h2032 : pw_g h20 125 32 = pw_g h18 125 32 := by rw [← h20w]; exact pw_g_ne (by omega)
                      have h2045 : pw_g h20 125 45 = pw_g h18 125 45 := by rw [← h20w]; exact pw_g_ne (by omega)
                      have tAw : pw_A n h20 := ⟨hn1, by rw [pw_Eg (c := 127) h18I h20E rfl rfl]; exact tAl.2.1, by omega, by omega, by omega, by omega⟩
                      have tTw : pt_TK K V P 1 h20 := pt_TK.E h18I h20E tTl rfl (by omega)
                      refine pw_ld E (pc' := 192) (st' := [.ref 141]) rfl (fun _ => rfl) ?_
                      refine pw_bip E (pc' := 194) rfl rfl (by decide) ?_
                      obtain ⟨f21l, f21h, -⟩ := pw_obj (c := 125) h20I rfl
                      refine pw_call (m' := 257) (As := [.ref 141, pw_i 59]) (rest := []) (ls'' := [some (.ref 141), some (pw_i 59)]) (Nat.le_trans (by decide) hd) E rfl (fun _ => pw_iV rfl rfl rfl rfl (pw_cellI f21h rfl)) (rfl : pm_ent 257 = some (2, 2, 12, 4, pmc_257)) rfl rfl (cm_257_t (pw_dp hd (by decide)) h20I (59) (by omega) (by omega) (by omega)) ?_
                      rintro h22 v23 ⟨h22I, h22E, hqtk, rfl⟩
                      refine ⟨_, rfl, ?_⟩
                      have h22F := h20F.tr (h22E.wk (W' := [125, 146, 147, 161]) (by first | rfl | simp))
                      show pw X d h22 279 197 [some (.ref 141), some (pw_i k4_1), some (pw_i k4_2)] [] _
                      have w9 := pt_sgI tTw (ch := 59) (by decide) (by decide)
                      have hw6 : pw_sg h20 59 = 1 → pw_g h20 125 7 < n := fun q => pw_A.lt tAw (by rw [tTw.1, (w9.resolve_right (fun z => by have := z.1; omega)).2.2.1]; decide)
                      have hPz := pw_gA (c := 128) (j := pw_g h20 125 7) h20I rfl (by decide) (by omega) (by omega)
                      have tAz : pw_A n h22 := ⟨hn1, by rw [pw_Eg (c := 127) h20I h22E rfl rfl]; exact tAw.2.1, by omega, by omega, by omega, by omega⟩
                      have tTz : pt_TK K V P 1 h22 := pt_TK.E h20I h22E tTw rfl (by omega)
                      refine pw_vret E rfl ?_
                      have hFO := pt_FOw k4_1
                      have e2 : (pw_g h20 125 7).toNat = (pw_g h 125 7).toNat + 2 := by omega
                      rw [e2] at w9
                      have hqw := hqtk.2.1
                      rw [tTw.2.2.1, e2] at hqw
                      rw [tTw.2.2.1, e2] at hPz
                      rcases w9 with ⟨y1, -, yk, yv⟩ | ⟨y0, yn⟩
                      · have hLN := pt_line_nn (P := P) hw (by omega) hth (by omega) (show K ((pw_g h 125 7).toNat + 1) = 2 by omega) (by omega) ⟨yk, yv⟩
                        obtain ⟨u7, u8⟩ := hqtk.1 y1
                        have c161 : ∀ j : Nat, pw_g h22 161 j = pw_g h18 161 j := fun j => by rw [pw_Eg (c := 161) h20I h22E rfl rfl j, ← h20w, pw_g_ne (by omega)]
                        have c146 : ∀ j : Nat, pw_g h22 146 j = pw_g h18 146 j := fun j => by rw [pw_Eg (c := 146) h20I h22E rfl rfl j, ← h20w, pw_g_ne (by omega)]
                        have c147 : ∀ j : Nat, pw_g h22 147 j = pw_g h18 147 j := fun j => by rw [pw_Eg (c := 147) h20I h22E rfl rfl j, ← h20w, pw_g_ne (by omega)]
                        have hMW := hp6.add (w := k4_1) (v := V ((pw_g h 125 7).toNat + 1)) (x := V ((pw_g h 125 7).toNat + 1)) (c := []) (by omega) (by omega) (fun k hk => (c161 k).trans ((l2 k hk).trans (hb161 k))) ((c161 _).trans (by omega)) (by omega) (fun j _ => ⟨(c146 j).trans ((l3 j).1.trans (hb146 j)), (c147 j).trans ((l3 j).2.trans (hb147 j))⟩) (fun q => by exfalso; omega) (fun _ => rfl) (by omega)
                        exact ⟨h22I, h22F, ⟨tTz, Or.inr ⟨by omega, by rw [hLN], by rw [hLN]; show pw_g h22 125 7 = (((pw_g h 125 7).toNat : Nat) : Int) + 3; omega, by rw [hLN]; exact hMW⟩⟩, rfl⟩
                      · have n9 : pw_sg h20 59 ≠ 1 := by omega
                        have z8 := (hqw n9).2.1 (by omega)
                        exact ⟨h22I, h22F, ⟨tTz, Or.inl ⟨by omega, (pt_line_ns hw (by omega) hth (by omega) (show K ((pw_g h 125 7).toNat + 1) = 2 by omega) (by omega) (fun q => yn ⟨by omega, q.1, q.2⟩)).trans (by omega)⟩⟩, rfl⟩
                    · intro hc24
                      change ¬ (c15 ≤ (0 : Int)) at hc24
                      refine pw_ld E (pc' := 158) (st' := [.ref 141]) rfl (fun _ => rfl) ?_
                      refine pw_ld E (pc' := 159) (st' := [pw_i 4, .ref 141]) rfl (fun _ => rfl) ?_
                      obtain ⟨f25l, f25h, -⟩ := pw_obj (c := 125) h8I rfl
                      refine pw_call (m' := 245) (As := [.ref 141, pw_i 4]) (rest := []) (ls'' := [some (.ref 141), some (pw_i 4)]) (Nat.le_trans (by decide) hd) E rfl (fun _ => pw_iV rfl rfl rfl rfl (pw_cellI f25h rfl)) (rfl : pm_ent 245 = some (2, 2, 12, 4, pmc_245)) rfl rfl (cm_245_t (pw_dp hd (by decide)) h8I (4) (by omega) (by omega)) ?_
                      rintro h26 v27 ⟨h26I, h26E, hqwr, rfl⟩
                      refine ⟨_, rfl, ?_⟩
                      have h26F := h8F.tr (h26E.wk (W' := [125, 146, 147, 161]) (by first | rfl | simp))
                      show pw X d h26 279 162 [some (.ref 141), some (pw_i k4_1), some (pw_i k4_2)] [] _
                      have hwn := hqwr.1 (by omega)
                      have tAy : pw_A n h26 := ⟨hn1, by rw [pw_Eg (c := 127) h8I h26E rfl rfl]; exact tAw.2.1, by omega, by omega, by omega, by omega⟩
                      have tTy : pt_TK K V P 1 h26 := pt_TK.E h8I h26E tTw rfl (by omega)
                      refine pw_goto E (pc' := 191) rfl (by decide) ?_
                      refine pw_ld E (pc' := 192) (st' := [.ref 141]) rfl (fun _ => rfl) ?_
                      refine pw_bip E (pc' := 194) rfl rfl (by decide) ?_
                      obtain ⟨f28l, f28h, -⟩ := pw_obj (c := 125) h26I rfl
                      refine pw_call (m' := 257) (As := [.ref 141, pw_i 59]) (rest := []) (ls'' := [some (.ref 141), some (pw_i 59)]) (Nat.le_trans (by decide) hd) E rfl (fun _ => pw_iV rfl rfl rfl rfl (pw_cellI f28h rfl)) (rfl : pm_ent 257 = some (2, 2, 12, 4, pmc_257)) rfl rfl (cm_257_t (pw_dp hd (by decide)) h26I (59) (by omega) (by omega) (by omega)) ?_
                      rintro h29 v30 ⟨h29I, h29E, hqtk, rfl⟩
                      refine ⟨_, rfl, ?_⟩
                      have h29F := h26F.tr (h29E.wk (W' := [125, 146, 147, 161]) (by first | rfl | simp))
                      show pw X d h29 279 197 [some (.ref 141), some (pw_i k4_1), some (pw_i k4_2)] [] _
                      have w9 := pt_sgI tTy (ch := 59) (by decide) (by decide)
                      have hw6 : pw_sg h26 59 = 1 → pw_g h26 125 7 < n := fun q => pw_A.lt tAy (by rw [tTy.1, (w9.resolve_right (fun z => by have := z.1; omega)).2.2.1]; decide)
                      have hPz := pw_gA (c := 128) (j := pw_g h26 125 7) h26I rfl (by decide) (by omega) (by omega)
                      have tAz : pw_A n h29 := ⟨hn1, by rw [pw_Eg (c := 127) h26I h29E rfl rfl]; exact tAy.2.1, by omega, by omega, by omega, by omega⟩
                      have tTz : pt_TK K V P 1 h29 := pt_TK.E h26I h29E tTy rfl (by omega)
                      refine pw_vret E rfl ?_
                      have hFO := pt_FOw k4_1
                      have n9 : pw_sg h26 59 ≠ 1 := fun q => by have := (w9.resolve_right (fun z => by have := z.1; omega)).2.1; omega
                      have z8 := (hqtk.2.1 n9).2.2 (by omega)
                      exact ⟨h29I, h29F, ⟨tTz, Or.inl ⟨by omega, (pt_line_n4 hw (by omega) hth (by omega) (by omega) (by omega)).trans (by omega)⟩⟩, rfl⟩
                  · intro hc31
                    change ¬ (k4_1 ≠ (3 : Int)) at hc31
                    refine pw_ld E (pc' := 147) (st' := [.long (Int64.ofInt 10), .long (Int64.ofInt (pw_gm h8 129 ((pw_g h8 125 7).toNat)))]) rfl (fun _ => rfl) ?_
                    refine pw_goto E (pc' := 153) rfl (by decide) ?_
                    refine pw_lcmpC E (pc' := 154) rfl rfl (by omega) (by omega) (by omega) (by omega) (fun c32 hc32 => ?_)
                    refine pw_if E (pc' := 165) rfl (by decide) (by omega) (by omega) ?_ ?_
                    · intro hc33
                      change c32 ≤ (0 : Int) at hc33
                      have hb161 : ∀ j : Nat, pw_g h8 161 j = pw_g h 161 j := fun j => by rw [← h8w, pw_g_ne (by omega)]
                      have hb146 : ∀ j : Nat, pw_g h8 146 j = pw_g h 146 j := fun j => by rw [← h8w, pw_g_ne (by omega)]
                      have hb147 : ∀ j : Nat, pw_g h8 147 j = pw_g h 147 j := fun j => by rw [← h8w, pw_g_ne (by omega)]
                      refine pw_ld E (pc' := 166) (st' := [.ref 141]) rfl (fun _ => rfl) ?_
                      refine pw_getR (b := 177) h8I E (c := 125) (k := 50) (pc' := 169) rfl rfl rfl rfl rfl rfl rfl ?_
                      refine pw_ld E (pc' := 170) (st' := [pw_i k4_1, .ref 177]) rfl (fun _ => rfl) ?_
                      refine pw_ld E (pc' := 171) (st' := [.ref 141, pw_i k4_1, .ref 177]) rfl (fun _ => rfl) ?_
                      refine pw_getR (b := 145) h8I E (c := 125) (k := 6) (pc' := 174) rfl rfl rfl rfl rfl rfl rfl ?_
                      refine pw_ld E (pc' := 175) (st' := [.ref 141, .ref 145, pw_i k4_1, .ref 177]) rfl (fun _ => rfl) ?_
                      refine pw_getI2 h8I E (c := 125) (k := 7) (pc' := 178) rfl rfl rfl rfl rfl rfl (fun hf34a hf34b => ?_)
                      refine pw_laldM h8I E (c := 129) (pc' := 179) rfl rfl rfl (by decide) (by omega) (by omega) rfl ?_
                      refine pw_l2iC E (pc' := 180) rfl rfl ?_
                      refine pw_ast0 h8I E (c := 161) (pc' := 181) rfl rfl rfl (by decide) rfl (by decide) (by omega) (by omega) rfl (by omega) (by omega) (by omega) (by omega) rfl ?_
                      intro h35I h35E
                      generalize h35w : pw_w h8 161 (k4_1.toNat) (pw_i (pw_gm h8 129 ((pw_g h8 125 7).toNat))) = h35 at h35I h35E ⊢
                      have h35F := h8F.tr (h35E.wk (W' := [125, 146, 147, 161]) (by first | rfl | simp))
                      have h357 : pw_g h35 125 7 = pw_g h8 125 7 := by rw [← h35w]; exact pw_g_ne (by omega)
                      have h358 : pw_g h35 125 8 = pw_g h8 125 8 := by rw [← h35w]; exact pw_g_ne (by omega)
                      have h3532 : pw_g h35 125 32 = pw_g h8 125 32 := by rw [← h35w]; exact pw_g_ne (by omega)
                      have h3545 : pw_g h35 125 45 = pw_g h8 125 45 := by rw [← h35w]; exact pw_g_ne (by omega)
                      have tAl : pw_A n h35 := ⟨hn1, by rw [pw_Eg (c := 127) h8I h35E rfl rfl]; exact tAw.2.1, by omega, by omega, by omega, by omega⟩
                      have tTl : pt_TK K V P 1 h35 := pt_TK.E h8I h35E tTw rfl (by omega)
                      have l1 : pw_g h35 161 k4_1.toNat = pw_gm h8 129 ((pw_g h8 125 7).toNat) := by rw [← h35w, show k4_1.toNat = k4_1.toNat by omega]; exact pw_g_eqA h8I rfl (by omega) (by omega) (by omega)
                      have l2 : ∀ j : Nat, j ≠ k4_1.toNat → pw_g h35 161 j = pw_g h8 161 j := fun j hj => by rw [← h35w]; exact pw_g_ne (by omega)
                      have l3 : ∀ j : Nat, pw_g h35 146 j = pw_g h8 146 j ∧ pw_g h35 147 j = pw_g h8 147 j := fun j => ⟨by rw [← h35w]; exact pw_g_ne (by omega), by rw [← h35w]; exact pw_g_ne (by omega)⟩
                      refine pw_ld E (pc' := 182) (st' := [.ref 141]) rfl (fun _ => rfl) ?_
                      refine pw_ld E (pc' := 183) (st' := [.ref 141, .ref 141]) rfl (fun _ => rfl) ?_
                      refine pw_getI2 h35I E (c := 125) (k := 7) (pc' := 186) rfl rfl rfl rfl rfl rfl (fun hf36a hf36b => ?_)
                      refine pw_ld E (pc' := 187) (st' := [pw_i 1, pw_i (pw_g h35 125 7), .ref 141]) rfl (fun _ => rfl) ?_
                      refine pw_add E (pc' := 188) rfl rfl ?_
                      refine pw_putI h35I E (c := 125) (k := 7) (pc' := 191) rfl rfl rfl rfl (by omega) (by omega) (by omega) (by omega) rfl rfl ?_
                      intro h37I h37E
                      generalize h37w : pw_w h35 125 7 (pw_i ((pw_g h35 125 7) + 1)) = h37 at h37I h37E ⊢
                      have h37F := h35F.tr (h37E.wk (W' := [125, 146, 147, 161]) (by first | rfl | simp))
                      have h377 : pw_g h37 125 7 = pw_g h35 125 7 + 1 := by rw [← h37w]; exact pw_g_eq (c := 125) (k := 7) h35I rfl rfl (by omega) (by omega)
                      have h378 : pw_g h37 125 8 = pw_g h35 125 8 := by rw [← h37w]; exact pw_g_ne (by omega)
                      have h3732 : pw_g h37 125 32 = pw_g h35 125 32 := by rw [← h37w]; exact pw_g_ne (by omega)
                      have h3745 : pw_g h37 125 45 = pw_g h35 125 45 := by rw [← h37w]; exact pw_g_ne (by omega)
                      have tAw : pw_A n h37 := ⟨hn1, by rw [pw_Eg (c := 127) h35I h37E rfl rfl]; exact tAl.2.1, by omega, by omega, by omega, by omega⟩
                      have tTw : pt_TK K V P 1 h37 := pt_TK.E h35I h37E tTl rfl (by omega)
                      refine pw_ld E (pc' := 192) (st' := [.ref 141]) rfl (fun _ => rfl) ?_
                      refine pw_bip E (pc' := 194) rfl rfl (by decide) ?_
                      obtain ⟨f38l, f38h, -⟩ := pw_obj (c := 125) h37I rfl
                      refine pw_call (m' := 257) (As := [.ref 141, pw_i 59]) (rest := []) (ls'' := [some (.ref 141), some (pw_i 59)]) (Nat.le_trans (by decide) hd) E rfl (fun _ => pw_iV rfl rfl rfl rfl (pw_cellI f38h rfl)) (rfl : pm_ent 257 = some (2, 2, 12, 4, pmc_257)) rfl rfl (cm_257_t (pw_dp hd (by decide)) h37I (59) (by omega) (by omega) (by omega)) ?_
                      rintro h39 v40 ⟨h39I, h39E, hqtk, rfl⟩
                      refine ⟨_, rfl, ?_⟩
                      have h39F := h37F.tr (h39E.wk (W' := [125, 146, 147, 161]) (by first | rfl | simp))
                      show pw X d h39 279 197 [some (.ref 141), some (pw_i k4_1), some (pw_i k4_2)] [] _
                      have w9 := pt_sgI tTw (ch := 59) (by decide) (by decide)
                      have hw6 : pw_sg h37 59 = 1 → pw_g h37 125 7 < n := fun q => pw_A.lt tAw (by rw [tTw.1, (w9.resolve_right (fun z => by have := z.1; omega)).2.2.1]; decide)
                      have hPz := pw_gA (c := 128) (j := pw_g h37 125 7) h37I rfl (by decide) (by omega) (by omega)
                      have tAz : pw_A n h39 := ⟨hn1, by rw [pw_Eg (c := 127) h37I h39E rfl rfl]; exact tAw.2.1, by omega, by omega, by omega, by omega⟩
                      have tTz : pt_TK K V P 1 h39 := pt_TK.E h37I h39E tTw rfl (by omega)
                      refine pw_vret E rfl ?_
                      have hFO := pt_FOw k4_1
                      have e2 : (pw_g h37 125 7).toNat = (pw_g h 125 7).toNat + 2 := by omega
                      rw [e2] at w9
                      have hqw := hqtk.2.1
                      rw [tTw.2.2.1, e2] at hqw
                      rw [tTw.2.2.1, e2] at hPz
                      rcases w9 with ⟨y1, -, yk, yv⟩ | ⟨y0, yn⟩
                      · have hLN := pt_line_nn (P := P) hw (by omega) hth (by omega) (show K ((pw_g h 125 7).toNat + 1) = 2 by omega) (by omega) ⟨yk, yv⟩
                        obtain ⟨u7, u8⟩ := hqtk.1 y1
                        have c161 : ∀ j : Nat, pw_g h39 161 j = pw_g h35 161 j := fun j => by rw [pw_Eg (c := 161) h37I h39E rfl rfl j, ← h37w, pw_g_ne (by omega)]
                        have c146 : ∀ j : Nat, pw_g h39 146 j = pw_g h35 146 j := fun j => by rw [pw_Eg (c := 146) h37I h39E rfl rfl j, ← h37w, pw_g_ne (by omega)]
                        have c147 : ∀ j : Nat, pw_g h39 147 j = pw_g h35 147 j := fun j => by rw [pw_Eg (c := 147) h37I h39E rfl rfl j, ← h37w, pw_g_ne (by omega)]
                        have hMW := hp6.add (w := k4_1) (v := V ((pw_g h 125 7).toNat + 1)) (x := V ((pw_g h 125 7).toNat + 1)) (c := []) (by omega) (by omega) (fun k hk => (c161 k).trans ((l2 k hk).trans (hb161 k))) ((c161 _).trans (by omega)) (by omega) (fun j _ => ⟨(c146 j).trans ((l3 j).1.trans (hb146 j)), (c147 j).trans ((l3 j).2.trans (hb147 j))⟩) (fun q => by exfalso; omega) (fun _ => rfl) (by omega)
                        exact ⟨h39I, h39F, ⟨tTz, Or.inr ⟨by omega, by rw [hLN], by rw [hLN]; show pw_g h39 125 7 = (((pw_g h 125 7).toNat : Nat) : Int) + 3; omega, by rw [hLN]; exact hMW⟩⟩, rfl⟩
                      · have n9 : pw_sg h37 59 ≠ 1 := by omega
                        have z8 := (hqw n9).2.1 (by omega)
                        exact ⟨h39I, h39F, ⟨tTz, Or.inl ⟨by omega, (pt_line_ns hw (by omega) hth (by omega) (show K ((pw_g h 125 7).toNat + 1) = 2 by omega) (by omega) (fun q => yn ⟨by omega, q.1, q.2⟩)).trans (by omega)⟩⟩, rfl⟩
                    · intro hc41
                      change ¬ (c32 ≤ (0 : Int)) at hc41
                      refine pw_ld E (pc' := 158) (st' := [.ref 141]) rfl (fun _ => rfl) ?_
                      refine pw_ld E (pc' := 159) (st' := [pw_i 4, .ref 141]) rfl (fun _ => rfl) ?_
                      obtain ⟨f42l, f42h, -⟩ := pw_obj (c := 125) h8I rfl
                      refine pw_call (m' := 245) (As := [.ref 141, pw_i 4]) (rest := []) (ls'' := [some (.ref 141), some (pw_i 4)]) (Nat.le_trans (by decide) hd) E rfl (fun _ => pw_iV rfl rfl rfl rfl (pw_cellI f42h rfl)) (rfl : pm_ent 245 = some (2, 2, 12, 4, pmc_245)) rfl rfl (cm_245_t (pw_dp hd (by decide)) h8I (4) (by omega) (by omega)) ?_
                      rintro h43 v44 ⟨h43I, h43E, hqwr, rfl⟩
                      refine ⟨_, rfl, ?_⟩
                      have h43F := h8F.tr (h43E.wk (W' := [125, 146, 147, 161]) (by first | rfl | simp))
                      show pw X d h43 279 162 [some (.ref 141), some (pw_i k4_1), some (pw_i k4_2)] [] _
                      have hwn := hqwr.1 (by omega)
                      have tAy : pw_A n h43 := ⟨hn1, by rw [pw_Eg (c := 127) h8I h43E rfl rfl]; exact tAw.2.1, by omega, by omega, by omega, by omega⟩
                      have tTy : pt_TK K V P 1 h43 := pt_TK.E h8I h43E tTw rfl (by omega)
                      refine pw_goto E (pc' := 191) rfl (by decide) ?_
                      refine pw_ld E (pc' := 192) (st' := [.ref 141]) rfl (fun _ => rfl) ?_
                      refine pw_bip E (pc' := 194) rfl rfl (by decide) ?_
                      obtain ⟨f45l, f45h, -⟩ := pw_obj (c := 125) h43I rfl
                      refine pw_call (m' := 257) (As := [.ref 141, pw_i 59]) (rest := []) (ls'' := [some (.ref 141), some (pw_i 59)]) (Nat.le_trans (by decide) hd) E rfl (fun _ => pw_iV rfl rfl rfl rfl (pw_cellI f45h rfl)) (rfl : pm_ent 257 = some (2, 2, 12, 4, pmc_257)) rfl rfl (cm_257_t (pw_dp hd (by decide)) h43I (59) (by omega) (by omega) (by omega)) ?_
                      rintro h46 v47 ⟨h46I, h46E, hqtk, rfl⟩
                      refine ⟨_, rfl, ?_⟩
                      have h46F := h43F.tr (h46E.wk (W' := [125, 146, 147, 161]) (by first | rfl | simp))
                      show pw X d h46 279 197 [some (.ref 141), some (pw_i k4_1), some (pw_i k4_2)] [] _
                      have w9 := pt_sgI tTy (ch := 59) (by decide) (by decide)
                      have hw6 : pw_sg h43 59 = 1 → pw_g h43 125 7 < n := fun q => pw_A.lt tAy (by rw [tTy.1, (w9.resolve_right (fun z => by have := z.1; omega)).2.2.1]; decide)
                      have hPz := pw_gA (c := 128) (j := pw_g h43 125 7) h43I rfl (by decide) (by omega) (by omega)
                      have tAz : pw_A n h46 := ⟨hn1, by rw [pw_Eg (c := 127) h43I h46E rfl rfl]; exact tAy.2.1, by omega, by omega, by omega, by omega⟩
                      have tTz : pt_TK K V P 1 h46 := pt_TK.E h43I h46E tTy rfl (by omega)
                      refine pw_vret E rfl ?_
                      have hFO := pt_FOw k4_1
                      have n9 : pw_sg h43 59 ≠ 1 := fun q => by have := (w9.resolve_right (fun z => by have := z.1; omega)).2.1; omega
                      have z8 := (hqtk.2.1 n9).2.2 (by omega)
                      exact ⟨h46I, h46F, ⟨tTz, Or.inl ⟨by omega, (pt_line_n4 hw (by omega) hth (by omega) (by omega) (by omega)).trans (by omega)⟩⟩, rfl⟩
                · intro hc48
                  change ¬ (pw_g h8 127 ((pw_g h8 125 7).toNat) = (2 : Int)) at hc48
                  refine pw_ld E (pc' := 123) (st' := [.ref 141]) rfl (fun _ => rfl) ?_
                  refine pw_ld E (pc' := 124) (st' := [pw_i 1, .ref 141]) rfl (fun _ => rfl) ?_
                  obtain ⟨f49l, f49h, -⟩ := pw_obj (c := 125) h8I rfl
                  refine pw_call (m' := 245) (As := [.ref 141, pw_i 1]) (rest := []) (ls'' := [some (.ref 141), some (pw_i 1)]) (Nat.le_trans (by decide) hd) E rfl (fun _ => pw_iV rfl rfl rfl rfl (pw_cellI f49h rfl)) (rfl : pm_ent 245 = some (2, 2, 12, 4, pmc_245)) rfl rfl (cm_245_t (pw_dp hd (by decide)) h8I (1) (by omega) (by omega)) ?_
                  rintro h50 v51 ⟨h50I, h50E, hqwr, rfl⟩
                  refine ⟨_, rfl, ?_⟩
                  have h50F := h8F.tr (h50E.wk (W' := [125, 146, 147, 161]) (by first | rfl | simp))
                  show pw X d h50 279 127 [some (.ref 141), some (pw_i k4_1), some (pw_i k4_2)] [] _
                  have hwn := hqwr.1 (by omega)
                  have tAy : pw_A n h50 := ⟨hn1, by rw [pw_Eg (c := 127) h8I h50E rfl rfl]; exact tAw.2.1, by omega, by omega, by omega, by omega⟩
                  have tTy : pt_TK K V P 1 h50 := pt_TK.E h8I h50E tTw rfl (by omega)
                  refine pw_goto E (pc' := 191) rfl (by decide) ?_
                  refine pw_ld E (pc' := 192) (st' := [.ref 141]) rfl (fun _ => rfl) ?_
                  refine pw_bip E (pc' := 194) rfl rfl (by decide) ?_
                  obtain ⟨f52l, f52h, -⟩ := pw_obj (c := 125) h50I rfl
                  refine pw_call (m' := 257) (As := [.ref 141, pw_i 59]) (rest := []) (ls'' := [some (.ref 141), some (pw_i 59)]) (Nat.le_trans (by decide) hd) E rfl (fun _ => pw_iV rfl rfl rfl rfl (pw_cellI f52h rfl)) (rfl : pm_ent 257 = some (2, 2, 12, 4, pmc_257)) rfl rfl (cm_257_t (pw_dp hd (by decide)) h50I (59) (by omega) (by omega) (by omega)) ?_
                  rintro h53 v54 ⟨h53I, h53E, hqtk, rfl⟩
                  refine ⟨_, rfl, ?_⟩
                  have h53F := h50F.tr (h53E.wk (W' := [125, 146, 147, 161]) (by first | rfl | simp))
                  show pw X d h53 279 197 [some (.ref 141), some (pw_i k4_1), some (pw_i k4_2)] [] _
                  have w9 := pt_sgI tTy (ch := 59) (by decide) (by decide)
                  have hw6 : pw_sg h50 59 = 1 → pw_g h50 125 7 < n := fun q => pw_A.lt tAy (by rw [tTy.1, (w9.resolve_right (fun z => by have := z.1; omega)).2.2.1]; decide)
                  have hPz := pw_gA (c := 128) (j := pw_g h50 125 7) h50I rfl (by decide) (by omega) (by omega)
                  have tAz : pw_A n h53 := ⟨hn1, by rw [pw_Eg (c := 127) h50I h53E rfl rfl]; exact tAy.2.1, by omega, by omega, by omega, by omega⟩
                  have tTz : pt_TK K V P 1 h53 := pt_TK.E h50I h53E tTy rfl (by omega)
                  refine pw_vret E rfl ?_
                  have hFO := pt_FOw k4_1
                  have n9 : pw_sg h50 59 ≠ 1 := fun q => by have := (w9.resolve_right (fun z => by have := z.1; omega)).2.1; omega
                  have z8 := (hqtk.2.1 n9).2.2 (by omega)
                  exact ⟨h53I, h53F, ⟨tTz, Or.inl ⟨by omega, (pt_line_n1 hw (by omega) hth (by omega) (by omega)).trans (by omega)⟩⟩, rfl⟩
              · intro hc55
                change ¬ (k4_1 ≠ (0 : Int)) at hc55
                refine pw_ld E (pc' := 81) (st' := [.ref 141]) rfl (fun _ => rfl) ?_
                refine pw_ld E (pc' := 82) (st' := [pw_i 4, .ref 141]) rfl (fun _ => rfl) ?_
                obtain ⟨f56l, f56h, -⟩ := pw_obj (c := 125) h8I rfl
                refine pw_call (m' := 246) (As := [.ref 141, pw_i 4]) (rest := []) (ls'' := [some (.ref 141), some (pw_i 4)]) (Nat.le_trans (by decide) hd) E rfl (fun _ => pw_iV rfl rfl rfl rfl (pw_cellI f56h rfl)) (rfl : pm_ent 246 = some (2, 2, 12, 4, pmc_246)) rfl rfl (cm_246_t (pw_dp hd (by decide)) h8I (4) (by omega) (by omega) (by omega)) ?_
                rintro h57 v58 ⟨h57I, h57E, hqtk, rfl⟩
                refine ⟨_, rfl, ?_⟩
                have h57F := h8F.tr (h57E.wk (W' := [125, 146, 147, 161]) (by first | rfl | simp))
                show pw X d h57 279 85 [some (.ref 141), some (pw_i k4_1), some (pw_i k4_2)] [] _
                have w4 := pt_wdI tTw (w := 4) (by decide) (by decide)
                have hw5 : pw_wd h8 4 = 1 → pw_g h8 125 7 < n := fun q => pw_A.lt tAw (by rw [tTw.1, (w4.resolve_right (fun z => by have := z.1; omega)).2.2.1]; decide)
                have hpl0 := pw_gA (c := 128) (j := pw_g h8 125 7) h8I rfl (by decide) (by omega) (by omega)
                have tAt : pw_A n h57 := ⟨hn1, by rw [pw_Eg (c := 127) h8I h57E rfl rfl]; exact tAw.2.1, by omega, by omega, by omega, by omega⟩
                have tTt : pt_TK K V P 1 h57 := pt_TK.E h8I h57E tTw rfl (by omega)
                rcases (by omega : pw_wd h8 4 = 1 ∨ pw_wd h8 4 ≠ 1) with hw4 | hw4
                · have hw4 : pw_wd h8 4 = 1 := hw4
                  obtain ⟨t7, t8⟩ := hqtk.1 hw4
                  have hwh := (w4.resolve_right (fun z => by have := z.1; omega)).2.2
                  have hwh : K ((pw_g h 125 7).toNat + 1) = 1 ∧ V ((pw_g h 125 7).toNat + 1) = 1176170 := by rw [show (pw_g h 125 7).toNat + 1 = (pw_g h8 125 7).toNat by omega]; exact hwh
                  refine pw_ld E (pc' := 86) (st' := [.ref 141]) rfl (fun _ => rfl) ?_
                  refine pw_getR (b := 177) h57I E (c := 125) (k := 50) (pc' := 89) rfl rfl rfl rfl rfl rfl rfl ?_
                  refine pw_ld E (pc' := 90) (st' := [pw_i 0, .ref 177]) rfl (fun _ => rfl) ?_
                  refine pw_ld E (pc' := 91) (st' := [.ref 141, pw_i 0, .ref 177]) rfl (fun _ => rfl) ?_
                  refine pw_getI2 h57I E (c := 125) (k := 32) (pc' := 94) rfl rfl rfl rfl rfl rfl (fun hf59a hf59b => ?_)
                  have hb161 : ∀ j : Nat, pw_g h57 161 j = pw_g h 161 j := fun j => by rw [pw_Eg (c := 161) h8I h57E rfl rfl j, ← h8w, pw_g_ne (by omega)]
                  have hb146 : ∀ j : Nat, pw_g h57 146 j = pw_g h 146 j := fun j => by rw [pw_Eg (c := 146) h8I h57E rfl rfl j, ← h8w, pw_g_ne (by omega)]
                  have hb147 : ∀ j : Nat, pw_g h57 147 j = pw_g h 147 j := fun j => by rw [pw_Eg (c := 147) h8I h57E rfl rfl j, ← h8w, pw_g_ne (by omega)]
                  refine pw_ast0 h57I E (c := 161) (pc' := 95) rfl rfl rfl (by decide) rfl (by decide) (by omega) (by omega) rfl (by omega) (by omega) (by omega) (by omega) rfl ?_
                  intro h60I h60E
                  generalize h60w : pw_w h57 161 (Int.toNat 0) (pw_i (pw_g h57 125 32)) = h60 at h60I h60E ⊢
                  have h60F := h57F.tr (h60E.wk (W' := [125, 146, 147, 161]) (by first | rfl | simp))
                  have h607 : pw_g h60 125 7 = pw_g h57 125 7 := by rw [← h60w]; exact pw_g_ne (by omega)
                  have h608 : pw_g h60 125 8 = pw_g h57 125 8 := by rw [← h60w]; exact pw_g_ne (by omega)
                  have h6032 : pw_g h60 125 32 = pw_g h57 125 32 := by rw [← h60w]; exact pw_g_ne (by omega)
                  have h6045 : pw_g h60 125 45 = pw_g h57 125 45 := by rw [← h60w]; exact pw_g_ne (by omega)
                  have tAl : pw_A n h60 := ⟨hn1, by rw [pw_Eg (c := 127) h57I h60E rfl rfl]; exact tAt.2.1, by omega, by omega, by omega, by omega⟩
                  have tTl : pt_TK K V P 1 h60 := pt_TK.E h57I h60E tTt rfl (by omega)
                  have l1 : pw_g h60 161 k4_1.toNat = pw_g h57 125 32 := by rw [← h60w, show k4_1.toNat = Int.toNat 0 by omega]; exact pw_g_eqA h57I rfl (by omega) (by omega) (by omega)
                  have l2 : ∀ j : Nat, j ≠ k4_1.toNat → pw_g h60 161 j = pw_g h57 161 j := fun j hj => by rw [← h60w]; exact pw_g_ne (by omega)
                  have l3 : ∀ j : Nat, pw_g h60 146 j = pw_g h57 146 j ∧ pw_g h60 147 j = pw_g h57 147 j := fun j => ⟨by rw [← h60w]; exact pw_g_ne (by omega), by rw [← h60w]; exact pw_g_ne (by omega)⟩
                  refine pw_ld E (pc' := 96) (st' := [.ref 141]) rfl (fun _ => rfl) ?_
                  refine pw_ld E (pc' := 97) (st' := [pw_i 0, .ref 141]) rfl (fun _ => rfl) ?_
                  have hC1 : pt_CD h60 (pw_g h60 125 32) [] := ⟨by omega, by show _ = _ + (0 : Int); omega, trivial⟩
                  obtain ⟨f61l, f61h, -⟩ := pw_obj (c := 125) h60I rfl
                  refine pw_call (m' := 248) (As := [.ref 141, pw_i 0]) (rest := []) (ls'' := [some (.ref 141), some (pw_i 0), none]) (Nat.le_trans (by decide) hd) E rfl (fun _ => pw_iV rfl rfl rfl rfl (pw_cellI f61h rfl)) (rfl : pm_ent 248 = some (2, 3, 12, 4, pmc_248)) rfl rfl (pw_and (pt_S248 (dp := 0) (by omega) (by omega) (by omega) h60I tAl (by omega)) (pt_C248_all n K V P 1 ([]) (0) (pw_g h60 125 32) ([]) (by omega) h60I tAl (by omega) tTl hp3 (by omega) (by omega) hC1 trivial (by decide))) ?_
                  rintro h62 v63 ⟨⟨h62I, h62E, ⟨tAb, tRb⟩, rfl⟩, ⟨-, -, ⟨tTb, tMb⟩, -⟩⟩
                  refine ⟨_, rfl, ?_⟩
                  have h62F := h60F.tr (h62E.wk (W' := [125, 146, 147, 161]) (by first | rfl | simp))
                  show pw X d h62 279 100 [some (.ref 141), some (pw_i k4_1), some (pw_i k4_2)] [] _
                  have tBb := tAb.2.2
                  have tCb := tRb.1.2.2.2.1
                  have tDb := tRb.1.2.1
                  have tGb := tRb.1.2.2.1
                  refine pw_ld E (pc' := 101) (st' := [.ref 141]) rfl (fun _ => rfl) ?_
                  refine pw_ld E (pc' := 102) (st' := [pw_i 0, .ref 141]) rfl (fun _ => rfl) ?_
                  refine pw_ld E (pc' := 103) (st' := [pw_i 0, pw_i 0, .ref 141]) rfl (fun _ => rfl) ?_
                  obtain ⟨f64l, f64h, -⟩ := pw_obj (c := 125) h62I rfl
                  refine pw_call (m' := 255) (As := [.ref 141, pw_i 0, pw_i 0]) (rest := []) (ls'' := [some (.ref 141), some (pw_i 0), some (pw_i 0)]) (Nat.le_trans (by decide) hd) E rfl (fun _ => pw_iV rfl rfl rfl rfl (pw_cellI f64h rfl)) (rfl : pm_ent 255 = some (3, 3, 12, 4, pmc_255)) rfl rfl (cm_255_t (pw_dp hd (by decide)) h62I (0) (by omega) (by omega) (0) (by omega) (by omega) (by omega)) ?_
                  rintro h65 v66 ⟨h65I, h65E, hqem, rfl⟩
                  refine ⟨_, rfl, ?_⟩
                  have h65F := h62F.tr (h65E.wk (W' := [125, 146, 147, 161]) (by first | rfl | simp))
                  show pw X d h65 279 106 [some (.ref 141), some (pw_i k4_1), some (pw_i k4_2)] [] _
                  have tE7 := hqem.1.1
                  have tE8 := hqem.1.2.1
                  have tE32 := hqem.1.2.2.1
                  have tE45 := hqem.2
                  have tAec : pw_A n h65 := ⟨hn1, by rw [pw_Eg (c := 127) h62I h65E rfl rfl]; exact tAb.2.1, by omega, by omega, by omega, by omega⟩
                  have tTec : pt_TK K V P 1 h65 := pt_TK.E h62I h65E tTb rfl (by omega)
                  refine pw_goto E (pc' := 191) rfl (by decide) ?_
                  refine pw_ld E (pc' := 192) (st' := [.ref 141]) rfl (fun _ => rfl) ?_
                  refine pw_bip E (pc' := 194) rfl rfl (by decide) ?_
                  obtain ⟨f67l, f67h, -⟩ := pw_obj (c := 125) h65I rfl
                  refine pw_call (m' := 257) (As := [.ref 141, pw_i 59]) (rest := []) (ls'' := [some (.ref 141), some (pw_i 59)]) (Nat.le_trans (by decide) hd) E rfl (fun _ => pw_iV rfl rfl rfl rfl (pw_cellI f67h rfl)) (rfl : pm_ent 257 = some (2, 2, 12, 4, pmc_257)) rfl rfl (cm_257_t (pw_dp hd (by decide)) h65I (59) (by omega) (by omega) (by omega)) ?_
                  rintro h68 v69 ⟨h68I, h68E, hqtk, rfl⟩
                  refine ⟨_, rfl, ?_⟩
                  have h68F := h65F.tr (h68E.wk (W' := [125, 146, 147, 161]) (by first | rfl | simp))
                  show pw X d h68 279 197 [some (.ref 141), some (pw_i k4_1), some (pw_i k4_2)] [] _
                  have w9 := pt_sgI tTec (ch := 59) (by decide) (by decide)
                  have hw6 : pw_sg h65 59 = 1 → pw_g h65 125 7 < n := fun q => pw_A.lt tAec (by rw [tTec.1, (w9.resolve_right (fun z => by have := z.1; omega)).2.2.1]; decide)
                  have hPz := pw_gA (c := 128) (j := pw_g h65 125 7) h65I rfl (by decide) (by omega) (by omega)
                  have tAz : pw_A n h68 := ⟨hn1, by rw [pw_Eg (c := 127) h65I h68E rfl rfl]; exact tAec.2.1, by omega, by omega, by omega, by omega⟩
                  have tTz : pt_TK K V P 1 h68 := pt_TK.E h65I h68E tTec rfl (by omega)
                  refine pw_vret E rfl ?_
                  have hFO := pt_FOw k4_1
                  have hLN := pt_line_E2 (P := P) hw (by omega) hth (by omega) hwh
                  have hai : (pw_g h60 125 7).toNat = (pw_g h 125 7).toNat + 2 := by omega
                  rw [tTec.2.2.1] at hPz
                  have hqw := hqtk.2.1
                  rw [tTec.2.2.1] at hqw
                  rcases tMb with ⟨z, f⟩ | ⟨z, c3, k3, m3⟩
                  · have hE := pt_E_mf f
                    rw [hai] at hE
                    have n9 : pw_sg h65 59 ≠ 1 := fun q => by have := (w9.resolve_right (fun z => by have := z.1; omega)).2.1; omega
                    have z8 := (hqw n9).2.2 (by omega)
                    exact ⟨h68I, h68F, ⟨tTz, Or.inl ⟨by omega, by rw [hLN, hE]; show pw_g h62 125 8 = _; omega⟩⟩, rfl⟩
                  · rcases w9 with ⟨y1, -, yk, yv⟩ | ⟨y0, yn⟩
                    · have e7 : pw_g h65 125 7 = pw_g h62 125 7 := by omega
                      rw [e7] at yk yv
                      have hE := pt_E_end (P := P) m3 (by omega) yk yv
                      rw [hai] at hE
                      obtain ⟨u7, u8⟩ := hqtk.1 y1
                      have q6 := tRb.1.2.2.2.2.2
                      have hsame : ∀ j : Nat, (j : Int) < 4400 + pw_g h 125 32 → pw_g h68 146 j = pw_g h 146 j ∧ pw_g h68 147 j = pw_g h 147 j := fun j hj => by
                        obtain ⟨a1, a2⟩ := q6 j (by omega)
                        obtain ⟨b1, b2⟩ := l3 j
                        obtain ⟨d1, d2⟩ := hqem.1.2.2.2.2.2 j (by omega)
                        rw [pw_Eg (c := 146) h65I h68E rfl rfl j, pw_Eg (c := 147) h65I h68E rfl rfl j, d1, d2, a1, a2, b1, b2, hb146, hb147]
                        exact ⟨rfl, rfl⟩
                      have c161 : ∀ j : Nat, pw_g h68 161 j = pw_g h60 161 j := fun j => by rw [pw_Eg (c := 161) h65I h68E rfl rfl j, pw_Eg (c := 161) h62I h65E rfl rfl j, pw_Eg (c := 161) h60I h62E rfl rfl j]
                      have e32 : pw_g h60 125 32 = pw_g h 125 32 := by omega
                      rw [e32] at k3
                      have k3b := k3.2.1
                      have sg : pt_SG h68 (pw_g h 125 32) c3 := ⟨k3.2.2.cg (fun j hj => by obtain ⟨d1, d2⟩ := hqem.1.2.2.2.2.2 ((4400 + pw_g h 125 32).toNat + j) (by omega); rw [pw_Eg (c := 146) h65I h68E rfl rfl _, pw_Eg (c := 147) h65I h68E rfl rfl _]; exact ⟨d1, d2⟩), by rw [pw_Eg (c := 146) h65I h68E rfl rfl _, show 4400 + pw_g h 125 32 + (c3.length : Int) = 4400 + pw_g h62 125 32 by omega]; exact hqem.1.2.2.2.1, by omega⟩
                      have hMW := hp6.add (w := k4_1) (v := pw_g h 125 32) (x := 0) (c := c3) (by omega) (by omega) (fun k hk => (c161 k).trans ((l2 k hk).trans (hb161 k))) ((c161 _).trans (by omega)) (by omega) hsame (fun _ => sg) (fun q => by exfalso; omega) (by omega)
                      exact ⟨h68I, h68F, ⟨tTz, Or.inr ⟨by omega, by rw [hLN, hE], by rw [hLN, hE]; show pw_g h68 125 7 = pw_g h62 125 7 + 1; omega, by rw [hLN, hE]; exact hMW⟩⟩, rfl⟩
                    · have e7 : pw_g h65 125 7 = pw_g h62 125 7 := by omega
                      obtain ⟨u7, u8, -⟩ := hqw (by omega)
                      have u8 := u8 (by omega)
                      rw [e7] at u8 yn
                      have hE := pt_E_mf (pt_GG.noend m3 (by omega) (fun q => yn ⟨by omega, q.1, q.2⟩) u8)
                      rw [hai] at hE
                      exact ⟨h68I, h68F, ⟨tTz, Or.inl ⟨by omega, by rw [hLN, hE]⟩⟩, rfl⟩
                · have hw4 : pw_wd h8 4 ≠ 1 := hw4
                  obtain ⟨t7, t8, -⟩ := hqtk.2.1 hw4
                  have t8 := t8 (by omega)
                  have hwn := (w4.resolve_left (fun z => by have := z.1; omega)).2
                  have hwn : ¬ (K ((pw_g h 125 7).toNat + 1) = 1 ∧ V ((pw_g h 125 7).toNat + 1) = 1176170) := by rw [show (pw_g h 125 7).toNat + 1 = (pw_g h8 125 7).toNat by omega]; exact fun z => hwn ⟨by omega, z⟩
                  have hpl := pw_gA (c := 128) (j := pw_g h8 125 7) h8I rfl (by decide) (by omega) (by omega)
                  have hpE : pw_g h8 128 (pw_g h8 125 7).toNat = P ((pw_g h 125 7).toNat + 1) := by rw [tTw.2.2.1, show (pw_g h 125 7).toNat + 1 = (pw_g h8 125 7).toNat by omega]
                  refine pw_ld E (pc' := 86) (st' := [.ref 141]) rfl (fun _ => rfl) ?_
                  refine pw_getR (b := 177) h57I E (c := 125) (k := 50) (pc' := 89) rfl rfl rfl rfl rfl rfl rfl ?_
                  refine pw_ld E (pc' := 90) (st' := [pw_i 0, .ref 177]) rfl (fun _ => rfl) ?_
                  refine pw_ld E (pc' := 91) (st' := [.ref 141, pw_i 0, .ref 177]) rfl (fun _ => rfl) ?_
                  refine pw_getI2 h57I E (c := 125) (k := 32) (pc' := 94) rfl rfl rfl rfl rfl rfl (fun hf70a hf70b => ?_)
                  have hb161 : ∀ j : Nat, pw_g h57 161 j = pw_g h 161 j := fun j => by rw [pw_Eg (c := 161) h8I h57E rfl rfl j, ← h8w, pw_g_ne (by omega)]
                  have hb146 : ∀ j : Nat, pw_g h57 146 j = pw_g h 146 j := fun j => by rw [pw_Eg (c := 146) h8I h57E rfl rfl j, ← h8w, pw_g_ne (by omega)]
                  have hb147 : ∀ j : Nat, pw_g h57 147 j = pw_g h 147 j := fun j => by rw [pw_Eg (c := 147) h8I h57E rfl rfl j, ← h8w, pw_g_ne (by omega)]
                  refine pw_ast0 h57I E (c := 161) (pc' := 95) rfl rfl rfl (by decide) rfl (by decide) (by omega) (by omega) rfl (by omega) (by omega) (by omega) (by omega) rfl ?_
                  intro h71I h71E
                  generalize h71w : pw_w h57 161 (Int.toNat 0) (pw_i (pw_g h57 125 32)) = h71 at h71I h71E ⊢
                  have h71F := h57F.tr (h71E.wk (W' := [125, 146, 147, 161]) (by first | rfl | simp))
                  have h717 : pw_g h71 125 7 = pw_g h57 125 7 := by rw [← h71w]; exact pw_g_ne (by omega)
                  have h718 : pw_g h71 125 8 = pw_g h57 125 8 := by rw [← h71w]; exact pw_g_ne (by omega)
                  have h7132 : pw_g h71 125 32 = pw_g h57 125 32 := by rw [← h71w]; exact pw_g_ne (by omega)
                  have h7145 : pw_g h71 125 45 = pw_g h57 125 45 := by rw [← h71w]; exact pw_g_ne (by omega)
                  have tAl : pw_A n h71 := ⟨hn1, by rw [pw_Eg (c := 127) h57I h71E rfl rfl]; exact tAt.2.1, by omega, by omega, by omega, by omega⟩
                  have tTl : pt_TK K V P 1 h71 := pt_TK.E h57I h71E tTt rfl (by omega)
                  have l1 : pw_g h71 161 k4_1.toNat = pw_g h57 125 32 := by rw [← h71w, show k4_1.toNat = Int.toNat 0 by omega]; exact pw_g_eqA h57I rfl (by omega) (by omega) (by omega)
                  have l2 : ∀ j : Nat, j ≠ k4_1.toNat → pw_g h71 161 j = pw_g h57 161 j := fun j hj => by rw [← h71w]; exact pw_g_ne (by omega)
                  have l3 : ∀ j : Nat, pw_g h71 146 j = pw_g h57 146 j ∧ pw_g h71 147 j = pw_g h57 147 j := fun j => ⟨by rw [← h71w]; exact pw_g_ne (by omega), by rw [← h71w]; exact pw_g_ne (by omega)⟩
                  refine pw_ld E (pc' := 96) (st' := [.ref 141]) rfl (fun _ => rfl) ?_
                  refine pw_ld E (pc' := 97) (st' := [pw_i 0, .ref 141]) rfl (fun _ => rfl) ?_
                  have hC1 : pt_CD h71 (pw_g h71 125 32) [] := ⟨by omega, by show _ = _ + (0 : Int); omega, trivial⟩
                  obtain ⟨f72l, f72h, -⟩ := pw_obj (c := 125) h71I rfl
                  refine pw_call (m' := 248) (As := [.ref 141, pw_i 0]) (rest := []) (ls'' := [some (.ref 141), some (pw_i 0), none]) (Nat.le_trans (by decide) hd) E rfl (fun _ => pw_iV rfl rfl rfl rfl (pw_cellI f72h rfl)) (rfl : pm_ent 248 = some (2, 3, 12, 4, pmc_248)) rfl rfl (cm_248_z (pw_dp hd (by decide)) h71I (0) (by omega) (by omega) n tAl (by omega)) ?_
                  rintro u74 v73 ⟨rfl, rfl⟩
                  refine ⟨_, rfl, ?_⟩
                  show pw X d h71 279 100 [some (.ref 141), some (pw_i k4_1), some (pw_i k4_2)] [] _
                  refine pw_ld E (pc' := 101) (st' := [.ref 141]) rfl (fun _ => rfl) ?_
                  refine pw_ld E (pc' := 102) (st' := [pw_i 0, .ref 141]) rfl (fun _ => rfl) ?_
                  refine pw_ld E (pc' := 103) (st' := [pw_i 0, pw_i 0, .ref 141]) rfl (fun _ => rfl) ?_
                  obtain ⟨f75l, f75h, -⟩ := pw_obj (c := 125) h71I rfl
                  refine pw_call (m' := 255) (As := [.ref 141, pw_i 0, pw_i 0]) (rest := []) (ls'' := [some (.ref 141), some (pw_i 0), some (pw_i 0)]) (Nat.le_trans (by decide) hd) E rfl (fun _ => pw_iV rfl rfl rfl rfl (pw_cellI f75h rfl)) (rfl : pm_ent 255 = some (3, 3, 12, 4, pmc_255)) rfl rfl (cm_255_t (pw_dp hd (by decide)) h71I (0) (by omega) (by omega) (0) (by omega) (by omega) (by omega)) ?_
                  rintro h76 v77 ⟨h76I, h76E, hqem, rfl⟩
                  refine ⟨_, rfl, ?_⟩
                  have h76F := h71F.tr (h76E.wk (W' := [125, 146, 147, 161]) (by first | rfl | simp))
                  show pw X d h76 279 106 [some (.ref 141), some (pw_i k4_1), some (pw_i k4_2)] [] _
                  have tE7 := hqem.1.1
                  have tE8 := hqem.1.2.1
                  have tE32 := hqem.1.2.2.1
                  have tE45 := hqem.2
                  have tAec : pw_A n h76 := ⟨hn1, by rw [pw_Eg (c := 127) h71I h76E rfl rfl]; exact tAl.2.1, by omega, by omega, by omega, by omega⟩
                  have tTec : pt_TK K V P 1 h76 := pt_TK.E h71I h76E tTl rfl (by omega)
                  refine pw_goto E (pc' := 191) rfl (by decide) ?_
                  refine pw_ld E (pc' := 192) (st' := [.ref 141]) rfl (fun _ => rfl) ?_
                  refine pw_bip E (pc' := 194) rfl rfl (by decide) ?_
                  obtain ⟨f78l, f78h, -⟩ := pw_obj (c := 125) h76I rfl
                  refine pw_call (m' := 257) (As := [.ref 141, pw_i 59]) (rest := []) (ls'' := [some (.ref 141), some (pw_i 59)]) (Nat.le_trans (by decide) hd) E rfl (fun _ => pw_iV rfl rfl rfl rfl (pw_cellI f78h rfl)) (rfl : pm_ent 257 = some (2, 2, 12, 4, pmc_257)) rfl rfl (cm_257_t (pw_dp hd (by decide)) h76I (59) (by omega) (by omega) (by omega)) ?_
                  rintro h79 v80 ⟨h79I, h79E, hqtk, rfl⟩
                  refine ⟨_, rfl, ?_⟩
                  have h79F := h76F.tr (h79E.wk (W' := [125, 146, 147, 161]) (by first | rfl | simp))
                  show pw X d h79 279 197 [some (.ref 141), some (pw_i k4_1), some (pw_i k4_2)] [] _
                  have w9 := pt_sgI tTec (ch := 59) (by decide) (by decide)
                  have hw6 : pw_sg h76 59 = 1 → pw_g h76 125 7 < n := fun q => pw_A.lt tAec (by rw [tTec.1, (w9.resolve_right (fun z => by have := z.1; omega)).2.2.1]; decide)
                  have hPz := pw_gA (c := 128) (j := pw_g h76 125 7) h76I rfl (by decide) (by omega) (by omega)
                  have tAz : pw_A n h79 := ⟨hn1, by rw [pw_Eg (c := 127) h76I h79E rfl rfl]; exact tAec.2.1, by omega, by omega, by omega, by omega⟩
                  have tTz : pt_TK K V P 1 h79 := pt_TK.E h76I h79E tTec rfl (by omega)
                  refine pw_vret E rfl ?_
                  have hFO := pt_FOw k4_1
                  have n9 : pw_sg h76 59 ≠ 1 := fun q => by have := (w9.resolve_right (fun z => by have := z.1; omega)).2.1; omega
                  have z8 := (hqtk.2.1 n9).2.2 (by omega)
                  exact ⟨h79I, h79F, ⟨tTz, Or.inl ⟨by omega, (pt_line_nw hw (by omega) hth (by omega) hwn).trans (by omega)⟩⟩, rfl⟩
            · intro hc81
              change ¬ (pw_g h 125 8 ≤ (0 : Int)) at hc81
              exfalso; omega
          · intro hc82
            change ¬ (pw_g h 161 (k4_1.toNat) < (0 : Int)) at hc82
            have hth : th k4_1 ≠ 0 := by rcases hml with ⟨q, -⟩ | ⟨-, q⟩ <;> omega
            refine pw_ld E (pc' := 54) (st' := [.ref 141]) rfl (fun _ => rfl) ?_
            refine pw_ld E (pc' := 55) (st' := [pw_i 3, .ref 141]) rfl (fun _ => rfl) ?_
            obtain ⟨f83l, f83h, -⟩ := pw_obj (c := 125) I rfl
            refine pw_call (m' := 245) (As := [.ref 141, pw_i 3]) (rest := []) (ls'' := [some (.ref 141), some (pw_i 3)]) (Nat.le_trans (by decide) hd) E rfl (fun _ => pw_iV rfl rfl rfl rfl (pw_cellI f83h rfl)) (rfl : pm_ent 245 = some (2, 2, 12, 4, pmc_245)) rfl rfl (cm_245_t (pw_dp hd (by decide)) I (3) (by omega) (by omega)) ?_
            rintro h84 v85 ⟨h84I, h84E, hqwr, rfl⟩
            refine ⟨_, rfl, ?_⟩
            have h84F := E0.tr (h84E.wk (W' := [125, 146, 147, 161]) (by first | rfl | simp))
            show pw X d h84 279 58 [some (.ref 141), some (pw_i k4_1), some (pw_i k4_2)] [] _
            have hPw := pw_gA (c := 128) (j := pw_g h 125 7) I rfl (by decide) (by omega) (by omega)
            have hwf := hqwr.1 hp4
            have tAx : pw_A n h84 := ⟨hn1, by rw [pw_Eg (c := 127) I h84E rfl rfl]; exact hp0.2.1, by omega, by omega, by omega, by omega⟩
            have tTx : pt_TK K V P 1 h84 := pt_TK.E I h84E hp2 rfl (by omega)
            rw [hp2.2.2.1] at hwf
            have hf0 : pw_g h84 125 8 ≠ 0 := by rw [hp2.2.2.1] at hPw; omega
            have hln : (pt_line 1 K V P th (pw_g h 125 7).toNat).1 = pw_g h84 125 8 := (pt_line_t3 hw (by omega) hth).trans hwf.symm
            refine pw_ld E (pc' := 59) (st' := [.ref 141]) rfl (fun _ => rfl) ?_
            refine pw_getI2 h84I E (c := 125) (k := 8) (pc' := 62) rfl rfl rfl rfl rfl rfl (fun hf86a hf86b => ?_)
            refine pw_if E (pc' := 66) rfl (by decide) (by omega) (by omega) ?_ ?_
            · intro hc87
              change pw_g h84 125 8 ≤ (0 : Int) at hc87
              exfalso; omega
            · intro hc88
              change ¬ (pw_g h84 125 8 ≤ (0 : Int)) at hc88
              refine pw_vret E rfl ?_
              exact ⟨h84I, h84F, ⟨tTx, Or.inl ⟨hf0, hln⟩⟩, rfl⟩
        · intro hc89
          change ¬ ((0 : Int) ≤ k4_1) at hc89
          refine pw_ld E (pc' := 37) (st' := [.ref 141]) rfl (fun _ => rfl) ?_
          refine pw_ld E (pc' := 38) (st' := [pw_i 1, .ref 141]) rfl (fun _ => rfl) ?_
          obtain ⟨f90l, f90h, -⟩ := pw_obj (c := 125) I rfl
          refine pw_call (m' := 245) (As := [.ref 141, pw_i 1]) (rest := []) (ls'' := [some (.ref 141), some (pw_i 1)]) (Nat.le_trans (by decide) hd) E rfl (fun _ => pw_iV rfl rfl rfl rfl (pw_cellI f90h rfl)) (rfl : pm_ent 245 = some (2, 2, 12, 4, pmc_245)) rfl rfl (cm_245_t (pw_dp hd (by decide)) I (1) (by omega) (by omega)) ?_
          rintro h91 v92 ⟨h91I, h91E, hqwr, rfl⟩
          refine ⟨_, rfl, ?_⟩
          have h91F := E0.tr (h91E.wk (W' := [125, 146, 147, 161]) (by first | rfl | simp))
          show pw X d h91 279 41 [some (.ref 141), some (pw_i k4_1), some (pw_i k4_2)] [] _
          refine pw_goto E (pc' := 58) rfl (by decide) ?_
          have hPw := pw_gA (c := 128) (j := pw_g h 125 7) I rfl (by decide) (by omega) (by omega)
          have hwf := hqwr.1 hp4
          have tAx : pw_A n h91 := ⟨hn1, by rw [pw_Eg (c := 127) I h91E rfl rfl]; exact hp0.2.1, by omega, by omega, by omega, by omega⟩
          have tTx : pt_TK K V P 1 h91 := pt_TK.E I h91E hp2 rfl (by omega)
          rw [hp2.2.2.1] at hwf
          have hf0 : pw_g h91 125 8 ≠ 0 := by rw [hp2.2.2.1] at hPw; omega
          have hln : (pt_line 1 K V P th (pw_g h 125 7).toNat).1 = pw_g h91 125 8 := (pt_line_w1 (by omega)).trans hwf.symm
          refine pw_ld E (pc' := 59) (st' := [.ref 141]) rfl (fun _ => rfl) ?_
          refine pw_getI2 h91I E (c := 125) (k := 8) (pc' := 62) rfl rfl rfl rfl rfl rfl (fun hf93a hf93b => ?_)
          refine pw_if E (pc' := 66) rfl (by decide) (by omega) (by omega) ?_ ?_
          · intro hc94
            change pw_g h91 125 8 ≤ (0 : Int) at hc94
            exfalso; omega
          · intro hc95
            change ¬ (pw_g h91 125 8 ≤ (0 : Int)) at hc95
            refine pw_vret E rfl ?_
            exact ⟨h91I, h91F, ⟨tTx, Or.inl ⟨hf0, hln⟩⟩, rfl⟩
      · intro hc96
        change ¬ ((4 : Int) ≤ k4_2) at hc96
        refine pw_ld E (pc' := 10) (st' := [.ref 141]) rfl (fun _ => rfl) ?_
        refine pw_bip E (pc' := 12) rfl rfl (by decide) ?_
        refine pw_ld E (pc' := 13) (st' := [pw_i k4_2, pw_i 18, .ref 141]) rfl (fun _ => rfl) ?_
        refine pw_add E (pc' := 14) rfl rfl ?_
        obtain ⟨f97l, f97h, -⟩ := pw_obj (c := 125) I rfl
        refine pw_call (m' := 244) (As := [.ref 141, pw_i (18 + k4_2)]) (rest := []) (ls'' := [some (.ref 141), some (pw_i (18 + k4_2))]) (Nat.le_trans (by decide) hd) E rfl (fun _ => pw_iV rfl rfl rfl rfl (pw_cellI f97h rfl)) (rfl : pm_ent 244 = some (2, 2, 12, 1, pmc_244)) rfl rfl (cm_244 (pw_dp hd (by decide)) I (18 + k4_2) (by omega) (by omega)) ?_
        rintro u99 v98 ⟨rfl, x100, rfl, hx100a, hx100b, hx100r⟩
        refine ⟨_, rfl, ?_⟩
        show pw X d h 279 17 [some (.ref 141), some (pw_i k4_1), some (pw_i k4_2)] [pw_i x100] _
        change x100 = pw_wd h (18 + k4_2) ∧ (x100 = 1 → pw_g h 125 8 = 0 ∧ pw_g h 127 (pw_g h 125 7).toNat = 1) at hx100r
        rcases (by omega : x100 = 1 ∨ x100 = 0) with hb101 | hb101
        · skip
          have o1 := pt_wdI hp2 (w := 18 + k4_2) (by omega) (by omega)
          rw [← hx100r.1, show (18 + k4_2).toNat = 18 + k4_2.toNat by omega] at o1
          have o2 := pt_fI.st hx4_0 (by omega) o1
          refine pw_if E (pc' := 24) rfl (by decide) (by omega) (by omega) ?_ ?_
          · intro hc102
            change x100 = (0 : Int) at hc102
            exfalso; omega
          · intro hc103
            change ¬ (x100 = (0 : Int)) at hc103
            refine pw_ld E (pc' := 21) (st' := [pw_i k4_2]) rfl (fun _ => rfl) ?_
            refine pw_goto E (pc' := 25) rfl (by decide) ?_
            refine pw_istn E (pc' := 26) (ls' := [some (.ref 141), some (pw_i k4_2), some (pw_i k4_2)]) rfl rfl rfl rfl ?_
            have o3 := o2.1 (by omega)
            refine pw_inc E (pc' := 29) (ls' := [some (.ref 141), some (pw_i k4_2), some (pw_i (k4_2 + 1))]) rfl rfl rfl rfl ?_
            refine pw_goto E (pc' := 4) rfl (by decide) ?_
            exact ih4 _ (by omega) (k4_2) (k4_2 + 1)  (by omega) (by omega) (by omega) (by omega) o3 rfl
        · skip
          have o1 := pt_wdI hp2 (w := 18 + k4_2) (by omega) (by omega)
          rw [← hx100r.1, show (18 + k4_2).toNat = 18 + k4_2.toNat by omega] at o1
          have o2 := pt_fI.st hx4_0 (by omega) o1
          refine pw_if E (pc' := 24) rfl (by decide) (by omega) (by omega) ?_ ?_
          · intro hc105
            change x100 = (0 : Int) at hc105
            refine pw_ld E (pc' := 25) (st' := [pw_i k4_1]) rfl (fun _ => rfl) ?_
            refine pw_istn E (pc' := 26) (ls' := [some (.ref 141), some (pw_i k4_1), some (pw_i k4_2)]) rfl rfl rfl rfl ?_
            have o3 := o2.2 (by omega)
            refine pw_inc E (pc' := 29) (ls' := [some (.ref 141), some (pw_i k4_1), some (pw_i (k4_2 + 1))]) rfl rfl rfl rfl ?_
            refine pw_goto E (pc' := 4) rfl (by decide) ?_
            exact ih4 _ (by omega) (k4_1) (k4_2 + 1)  (by omega) (by omega) (by omega) (by omega) o3 rfl
          · intro hc106
            change ¬ (x100 = (0 : Int)) at hc106
            exfalso; omega
  exact L4 _ ((-1)) (0)  (by omega) (by omega) (by omega) (by omega) pt_fI.z rfl
end
section
/-! texts: what waits and the code as the class has them -/
/-- the first n of a row, the last first -/
def px_st (w : Nat → Int) : Nat → List Int
  | 0 => []
  | k + 1 => w k :: px_st w k
theorem px_st_len {w : Nat → Int} (n : Nat) : (px_st w n).length = n := by
  induction n with
  | zero => rfl
  | succ n ih => show (px_st w n).length + 1 = n + 1; rw [ih]
theorem px_st_cg {w w' : Nat → Int} : ∀ n : Nat, (∀ j : Nat, j < n → w' j = w j) → px_st w' n = px_st w n := by
  intro n
  induction n with
  | zero => intro _; rfl
  | succ n ih =>
    intro H
    show w' n :: px_st w' n = w n :: px_st w n
    rw [H n (Nat.lt_succ_self n), ih (fun j hj => H j (by omega))]
def px_S (c : Nat) (h : pm_H) : List Int := px_st (pw_g h (c + 1)) (pw_g h c 4).toNat
def px_C (h : pm_H) (st : Int) : List Int := px_st (fun j => pw_g h 36 (st.toNat + j)) (pw_g h 30 1 - st).toNat
theorem px_S0 {c : Nat} {h : pm_H} (h0 : pw_g h c 4 ≤ 0) : px_S c h = [] := by
  unfold px_S
  rw [show (pw_g h c 4).toNat = 0 by omega]
  rfl
theorem px_S1 {c : Nat} {h : pm_H} (h0 : 0 < pw_g h c 4) : px_S c h = pw_g h (c + 1) (pw_g h c 4 - 1).toNat :: px_st (pw_g h (c + 1)) (pw_g h c 4 - 1).toNat := by
  unfold px_S
  rw [show (pw_g h c 4).toNat = (pw_g h c 4 - 1).toNat + 1 by omega]
  rfl
/-- one off the top -/
theorem px_S.pop {c : Nat} {h h' : pm_H} {S : List Int} {x : Int} (h0 : 0 < pw_g h c 4) (e : pw_g h' c 4 = pw_g h c 4 - 1) (w : ∀ j : Nat, pw_g h' (c + 1) j = pw_g h (c + 1) j) (hS : px_S c h = x :: S) : px_S c h' = S := by
  rw [px_S1 h0] at hS
  unfold px_S
  rw [e, px_st_cg _ (fun j _ => w j)]
  exact (List.cons.inj hS).2
theorem px_S.push {c : Nat} {h h' : pm_H} {x : Int} (h0 : 0 ≤ pw_g h c 4) (e : pw_g h' c 4 = pw_g h c 4 + 1) (hx : pw_g h' (c + 1) (pw_g h c 4).toNat = x) (w : ∀ j : Nat, j ≠ (pw_g h c 4).toNat → pw_g h' (c + 1) j = pw_g h (c + 1) j) : px_S c h' = x :: px_S c h := by
  unfold px_S
  rw [e, show (pw_g h c 4 + 1).toNat = (pw_g h c 4).toNat + 1 by omega]
  show pw_g h' (c + 1) (pw_g h c 4).toNat :: px_st (pw_g h' (c + 1)) (pw_g h c 4).toNat = _
  rw [hx, px_st_cg _ (fun j hj => w j (by omega))]
theorem px_S.eq {c : Nat} {h h' : pm_H} (e : pw_g h' c 4 = pw_g h c 4) (w : ∀ j : Nat, pw_g h' (c + 1) j = pw_g h (c + 1) j) : px_S c h' = px_S c h := by
  unfold px_S
  rw [e]
  exact px_st_cg _ (fun j _ => w j)
/-- a word more in the draft -/
def px_EM (h h' : pm_H) (li wd : Int) : Prop := pw_g h' 30 1 = pw_g h 30 1 + 1 ∧ pw_g h' 36 (pw_g h 30 1).toNat = wd ∧ (∀ j : Nat, j ≠ (pw_g h 30 1).toNat → pw_g h' 36 j = pw_g h 36 j) ∧ pw_g h' 33 li.toNat = pw_g h 30 1 + 1 ∧ ∀ j : Nat, j ≠ li.toNat → pw_g h' 33 j = pw_g h 33 j
theorem px_C.em {h h' : pm_H} {li wd st : Int} (m : px_EM h h' li wd) (h0 : 0 ≤ st) (h1 : st ≤ pw_g h 30 1) : px_C h' st = wd :: px_C h st := by
  obtain ⟨m1, m2, m3, -, -⟩ := m
  unfold px_C
  rw [show (pw_g h' 30 1 - st).toNat = (pw_g h 30 1 - st).toNat + 1 by omega]
  show pw_g h' 36 (st.toNat + (pw_g h 30 1 - st).toNat) :: px_st (fun j => pw_g h' 36 (st.toNat + j)) (pw_g h 30 1 - st).toNat = _
  rw [show st.toNat + (pw_g h 30 1 - st).toNat = (pw_g h 30 1).toNat by omega, m2, px_st_cg _ (fun j hj => m3 _ (by omega))]
theorem px_C.eq {h h' : pm_H} {st : Int} (e : pw_g h' 30 1 = pw_g h 30 1) (w : ∀ j : Nat, pw_g h' 36 j = pw_g h 36 j) : px_C h' st = px_C h st := by
  unfold px_C
  rw [e]
  exact px_st_cg _ (fun j _ => w _)
/-- what the draft keeps while a line's code grows: what stood, the other lines; the line ends where the code does -/
def px_B (c : Nat) (h h' : pm_H) : Prop := pw_g h 30 1 ≤ pw_g h' 30 1 ∧ (∀ j : Nat, (j : Int) < pw_g h 30 1 → pw_g h' 36 j = pw_g h 36 j) ∧ pw_g h' 33 (pw_g h c 8).toNat = pw_g h' 30 1 ∧ ∀ j : Nat, j ≠ (pw_g h c 8).toNat → pw_g h' 33 j = pw_g h 33 j
theorem px_B.rf {c : Nat} {h : pm_H} (e : pw_g h 33 (pw_g h c 8).toNat = pw_g h 30 1) : px_B c h h := ⟨Int.le_refl _, fun _ _ => rfl, e, fun _ _ => rfl⟩
theorem px_B.tr {c : Nat} {h g g' : pm_H} (H : px_B c h g) (e8 : pw_g g c 8 = pw_g h c 8) (G : px_B c g g') : px_B c h g' := by
  obtain ⟨a1, a2, a3, a4⟩ := H
  obtain ⟨b1, b2, b3, b4⟩ := G
  rw [e8] at b3 b4
  exact ⟨by omega, fun j hj => (b2 j (by omega)).trans (a2 j hj), b3, fun j hj => (b4 j hj).trans (a4 j hj)⟩
theorem px_B.em {c : Nat} {h g g' : pm_H} {wd : Int} (H : px_B c h g) (e8 : pw_g g c 8 = pw_g h c 8) (m : px_EM g g' (pw_g g c 8) wd) : px_B c h g' := by
  obtain ⟨a1, a2, a3, a4⟩ := H
  obtain ⟨m1, m2, m3, m4, m5⟩ := m
  rw [e8] at m4 m5
  exact ⟨by omega, fun j hj => (m3 j (by omega)).trans (a2 j hj), by omega, fun j hj => (m5 j hj).trans (a4 j hj)⟩
theorem px_B.eq {c : Nat} {h g g' : pm_H} (H : px_B c h g) (e1 : pw_g g' 30 1 = pw_g g 30 1) (e6 : ∀ j : Nat, pw_g g' 36 j = pw_g g 36 j) (e3 : ∀ j : Nat, pw_g g' 33 j = pw_g g 33 j) : px_B c h g' := by
  obtain ⟨a1, a2, a3, a4⟩ := H
  exact ⟨by omega, fun j hj => (e6 j).trans (a2 j hj), by rw [e3, e1]; exact a3, fun j hj => (e3 j).trans (a4 j hj)⟩
/-- how deep, how many brackets; what may wait -/
def px_dc : List Int → Int
  | [] => 0
  | x :: S => px_dc S + (if x = 8 ∨ x = 9 then 1 else 0)
def px_oc : List Int → Int
  | [] => 0
  | x :: S => px_oc S + (if x = 9 then 1 else 0)
def px_wf : List Int → Prop
  | [] => True
  | x :: S => 1 ≤ x ∧ x ≤ 9 ∧ (x < 8 → pt_n8 S ∧ pt_tr S < pt_rk x) ∧ px_wf S
theorem px_dcB : ∀ S : List Int, 0 ≤ px_oc S ∧ px_oc S ≤ px_dc S := by
  intro S
  induction S with
  | nil => exact ⟨Int.le_refl _, Int.le_refl _⟩
  | cons x S ih =>
    have e1 : px_dc (x :: S) = px_dc S + (if x = 8 ∨ x = 9 then 1 else 0) := rfl
    have e2 : px_oc (x :: S) = px_oc S + (if x = 9 then 1 else 0) := rfl
    rw [e1, e2]
    by_cases q : x = 9
    · rw [if_pos (Or.inr q), if_pos q]; omega
    · rw [if_neg q]
      split <;> omega
theorem px_rk_sm {x : Int} (h : 1 ≤ pt_rk x) : x ≠ 8 ∧ x ≠ 9 := by
  refine ⟨fun q => ?_, fun q => ?_⟩
  · rw [q] at h; exact absurd h (by decide)
  · rw [q] at h; exact absurd h (by decide)
theorem px_rk_0 {x : Int} (h1 : 1 ≤ x) (h9 : x ≤ 9) (h : pt_rk x < 1) : x = 8 ∨ x = 9 := by
  rcases (by omega : x = 1 ∨ x = 2 ∨ x = 3 ∨ x = 4 ∨ x = 5 ∨ x = 6 ∨ x = 7 ∨ x = 8 ∨ x = 9) with q | q | q | q | q | q | q | q | q
  all_goals first | exact Or.inl q | exact Or.inr q | (rw [q] at h; exact absurd h (by decide))
theorem px_rlW {r : Int} (hr : 1 ≤ r) : ∀ (S c : List Int), px_dc (pt_rl r S c).1 = px_dc S ∧ px_oc (pt_rl r S c).1 = px_oc S ∧ (px_wf S → px_wf (pt_rl r S c).1 ∧ (pt_n8 S → pt_n8 (pt_rl r S c).1)) := by
  intro S
  induction S with
  | nil => intro c; exact ⟨rfl, rfl, fun _ => ⟨trivial, fun _ => trivial⟩⟩
  | cons x S ih =>
    intro c
    by_cases q : r ≤ pt_rk x
    · obtain ⟨i1, i2, i3⟩ := ih (-x :: c)
      obtain ⟨n8, n9⟩ := px_rk_sm (x := x) (by omega)
      have e1 : px_dc (x :: S) = px_dc S + (if x = 8 ∨ x = 9 then 1 else 0) := rfl
      have e2 : px_oc (x :: S) = px_oc S + (if x = 9 then 1 else 0) := rfl
      rw [pt_rl_ge q, e1, e2, if_neg (fun z => z.elim n8 n9), if_neg n9, i1, i2]
      exact ⟨by omega, by omega, fun w => ⟨(i3 w.2.2.2).1, fun _ => (i3 w.2.2.2).2 (w.2.2.1 (by have := w.2.1; omega)).1⟩⟩
    · have e : pt_rl r (x :: S) c = (x :: S, c) := if_neg q
      rw [e]
      exact ⟨rfl, rfl, fun w => ⟨w, fun z => z⟩⟩
theorem px_rlT {r : Int} : ∀ (S c : List Int), pt_tr (pt_rl r S c).1 < r ∨ (pt_rl r S c).1 = [] := by
  intro S
  induction S with
  | nil => intro c; exact Or.inr rfl
  | cons x S ih =>
    intro c
    by_cases q : r ≤ pt_rk x
    · rw [pt_rl_ge q]; exact ih _
    · have e : pt_rl r (x :: S) c = (x :: S, c) := if_neg q
      rw [e]
      exact Or.inl (by show pt_rk x < r; omega)
theorem px_epW : ∀ (S : List Int) (d : Int) (c : List Int), d = px_dc S → px_wf S → (pt_ep S d c).2.1 = px_dc (pt_ep S d c).1 ∧ px_oc (pt_ep S d c).1 = px_oc S ∧ px_wf (pt_ep S d c).1 ∧ (pt_ep S d c).2.1 ≤ d ∧ pt_n8 (pt_ep S d c).1 := by
  intro S
  induction S with
  | nil => intro d c h _; exact ⟨h, rfl, trivial, Int.le_refl _, trivial⟩
  | cons x S ih =>
    intro d c h w
    by_cases q : x = 8
    · have e : pt_ep (x :: S) d c = pt_ep S (d - 1) (-8 :: c) := if_pos q
      have e1 : px_dc (x :: S) = px_dc S + (if x = 8 ∨ x = 9 then 1 else 0) := rfl
      have e2 : px_oc (x :: S) = px_oc S + (if x = 9 then 1 else 0) := rfl
      rw [if_pos (Or.inl q)] at e1
      rw [if_neg (by omega)] at e2
      obtain ⟨i1, i2, i3, i4, i5⟩ := ih (d - 1) (-8 :: c) (by omega) w.2.2.2
      rw [e]
      exact ⟨i1, by omega, i3, by omega, i5⟩
    · have e : pt_ep (x :: S) d c = (x :: S, d, c) := if_neg q
      rw [e]
      exact ⟨h, rfl, w, Int.le_refl _, q⟩
/-- behind a closing bracket's release an open one is on top -/
theorem px_clT {S c : List Int} (w : px_wf S) (n : pt_n8 S) (ho : 0 < px_oc S) : ∃ T, (pt_rl 1 S c).1 = 9 :: T ∧ px_dc T = px_dc S - 1 ∧ px_oc T = px_oc S - 1 ∧ px_wf T := by
  obtain ⟨a1, a2, a3⟩ := px_rlW (r := 1) (Int.le_refl _) S c
  have t := px_rlT (r := 1) S c
  cases e : (pt_rl 1 S c).1 with
  | nil =>
    rw [e] at a2
    have : px_oc [] = 0 := rfl
    omega
  | cons x T =>
    rw [e] at a1 a2 a3 t
    obtain ⟨w2, n2⟩ := a3 w
    have hx := px_rk_0 w2.1 w2.2.1 (by
      rcases t with t | t
      · exact t
      · exact absurd t (List.cons_ne_nil _ _))
    have h9 : x = 9 := hx.resolve_left (n2 n)
    have e1 : px_dc (x :: T) = px_dc T + (if x = 8 ∨ x = 9 then 1 else 0) := rfl
    have e2 : px_oc (x :: T) = px_oc T + (if x = 9 then 1 else 0) := rfl
    rw [if_pos hx] at e1
    rw [if_pos h9] at e2
    exact ⟨T, by rw [h9], by omega, by omega, w2.2.2.2⟩
theorem px_rkE {x : Int} (h0 : 0 ≤ x) (h9 : x ≤ 9) : pw_rk x = pt_rk x := by
  rcases (by omega : x = 0 ∨ x = 1 ∨ x = 2 ∨ x = 3 ∨ x = 4 ∨ x = 5 ∨ x = 6 ∨ x = 7 ∨ x = 8 ∨ x = 9) with q | q | q | q | q | q | q | q | q | q <;> rw [q] <;> decide
/-- pushed -/
def px_PU (c : Nat) (h h' : pm_H) (x : Int) : Prop := pw_g h' c 4 = pw_g h c 4 + 1 ∧ pw_g h' (c + 1) (pw_g h c 4).toNat = x ∧ (∀ j : Nat, j ≠ (pw_g h c 4).toNat → pw_g h' (c + 1) j = pw_g h (c + 1) j) ∧ ∀ k : Nat, k ≠ 4 → pw_g h' c k = pw_g h c k
/-- released -/
def px_RL (c : Nat) (st rk : Int) (h h' : pm_H) : Prop := pt_rl rk (px_S c h) (px_C h st) = (px_S c h', px_C h' st) ∧ pw_g h' 30 1 + pw_g h' c 4 = pw_g h 30 1 + pw_g h c 4 ∧ px_B c h h' ∧ ∀ k : Nat, k ≠ 4 → pw_g h' c k = pw_g h c k
/-- a part ended -/
def px_EP (c : Nat) (st : Int) (h h' : pm_H) : Prop := pt_ep (px_S c h) (pw_g h c 5) (px_C h st) = (px_S c h', pw_g h' c 5, px_C h' st) ∧ pw_g h' 30 1 + pw_g h' c 4 = pw_g h 30 1 + pw_g h c 4 ∧ px_B c h h' ∧ pw_g h' c 7 = 3 ∧ ∀ k : Nat, k ≠ 4 → k ≠ 5 → k ≠ 7 → pw_g h' c k = pw_g h c k
theorem px_loopR {c : Nat} {rk : Int} {h : pm_H} {st : Int} (h0 : pw_g h c 4 ≤ 0 ∨ pt_tr (px_S c h) < rk) : pt_rl rk (px_S c h) (px_C h st) = (px_S c h, px_C h st) := by
  rcases h0 with q | q
  · rw [px_S0 q]; rfl
  · exact pt_rl_lt q
end
