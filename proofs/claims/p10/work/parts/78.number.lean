/-! a number: how far the tokens go on, and that it is not negative (printed by wip/tool/reader9.py) -/
theorem pw_nmE {X : List (Nat × List Value)} {d : Nat} {h : pm_H} {m pc : Nat} {ls : pm_L} {r : List Value} {Q : pm_H → (Option Value ⊕ Unit) → Prop} {a : Int} (H : ∀ b : Int, -2147483648 ≤ b → b ≤ 2147483647 → ((a < -2147483648 ∨ 2147483647 < a) ∨ b = a) → pw X d h m pc ls (pw_i b :: r) Q) : pw X d h m pc ls (pw_i a :: r) Q := by
  by_cases hr : a < -2147483648 ∨ 2147483647 < a
  · exact pw_nm (fun b h1 h2 => H b h1 h2 (Or.inl hr))
  · exact H a (by omega) (by omega) (Or.inr rfl)
set_option maxHeartbeats 4000000 in
theorem cm_106_24 {X : List (Nat × List Value)} {d : Nat} {h : pm_H} (hd : 2 ≤ d) (I : pw_I h) (hp0 : pw_g h 24 3 < pw_g h 24 1) (hp1 : 48 ≤ pw_g h 25 (pw_g h 24 3).toNat ∧ pw_g h 25 (pw_g h 24 3).toNat ≤ 57) (hp2 : pw_g h 24 2 = pw_g h 24 3) : pw X d h 106 0 [some (.ref 40)] [] (fun h' v => pw_I h' ∧ pw_E [24] h h' ∧ (pw_g h 24 3 + 1 ≤ pw_g h' 24 3 ∧ (pw_g h' 24 4 ≠ 2 ∨ 0 ≤ pw_g h' 24 5)) ∧ (v = .inl none)) := by
  have E : pm_ent 106 = some (1, 1, 9, 4, pmc_106) := rfl
  have E0 : pw_E [24] h h := pw_E.rf _ _
  refine pw_ld E (pc' := 1) (st' := [.ref 40]) rfl (fun _ => rfl) ?_
  refine pw_ld E (pc' := 2) (st' := [pw_i 0, .ref 40]) rfl (fun _ => rfl) ?_
  refine pw_putI I E (c := 24) (k := 5) (pc' := 5) rfl rfl rfl rfl (by omega) (by omega) (by omega) (by omega) rfl rfl ?_
  intro h1I h1E
  generalize h1w : pw_w h 24 5 (pw_i 0) = h1 at h1I h1E ⊢
  have h1F := E0.tr (h1E.wk (W' := [24]) (by first | rfl | simp))
  have L5 : ∀ (n5 : Nat)  (h5 : pm_H), pw_I h5 → pw_E [24] h h5 → pw_g h5 24 1 = pw_g h 24 1 → pw_g h5 24 2 = pw_g h 24 2 → pw_g h 24 3 ≤ pw_g h5 24 3 → ((pw_g h5 24 3 = pw_g h 24 3 ∧ pw_g h5 24 5 = 0) ∨ (pw_g h5 24 3 = pw_g h 24 3 + 1 ∧ 0 ≤ pw_g h5 24 5 ∧ pw_g h5 24 5 ≤ 9) ∨ (pw_g h5 24 3 = pw_g h 24 3 + 2 ∧ 0 ≤ pw_g h5 24 5 ∧ pw_g h5 24 5 ≤ 99) ∨ (pw_g h5 24 3 = pw_g h 24 3 + 3 ∧ 0 ≤ pw_g h5 24 5 ∧ pw_g h5 24 5 ≤ 999) ∨ (pw_g h5 24 3 = pw_g h 24 3 + 4 ∧ 0 ≤ pw_g h5 24 5 ∧ pw_g h5 24 5 ≤ 9999) ∨ pw_g h 24 3 + 5 ≤ pw_g h5 24 3) → (1000 - pw_g h5 24 3).toNat = n5 → pw X d h5 106 5 [some (.ref 40)] [] (fun h' v => pw_I h' ∧ pw_E [24] h h' ∧ (pw_g h 24 3 + 1 ≤ pw_g h' 24 3 ∧ (pw_g h' 24 4 ≠ 2 ∨ 0 ≤ pw_g h' 24 5)) ∧ (v = .inl none)) := by
    intro n5
    induction n5 using Nat.strongRecOn with
    | ind n5 ih5 =>
      intro  h5 I5 E5 hx5_0 hx5_1 hx5_2 hx5_3 hm5
      refine pw_ld E (pc' := 6) (st' := [.ref 40]) rfl (fun _ => rfl) ?_
      refine pw_getI I5 E (c := 24) (k := 3) (pc' := 9) rfl rfl rfl rfl rfl rfl (fun hf2a hf2b hf2c hf2d => ?_)
      refine pw_ld E (pc' := 10) (st' := [.ref 40, pw_i (pw_g h5 24 3)]) rfl (fun _ => rfl) ?_
      refine pw_getI I5 E (c := 24) (k := 1) (pc' := 13) rfl rfl rfl rfl rfl rfl (fun hf3a hf3b hf3c hf3d => ?_)
      refine pw_if2 E (pc' := 68) rfl (by decide) (by omega) (by omega) (by omega) (by omega) ?_ ?_
      · intro hc4
        have hc4 : pw_g h5 24 1 ≤ pw_g h5 24 3 := hc4
        refine pw_ld E (pc' := 69) (st' := [.ref 40]) rfl (fun _ => rfl) ?_
        refine pw_ld E (pc' := 70) (st' := [.ref 40, .ref 40]) rfl (fun _ => rfl) ?_
        refine pw_getI I5 E (c := 24) (k := 3) (pc' := 73) rfl rfl rfl rfl rfl rfl (fun hf5a hf5b hf5c hf5d => ?_)
        refine pw_ld E (pc' := 74) (st' := [.ref 40, pw_i (pw_g h5 24 3), .ref 40]) rfl (fun _ => rfl) ?_
        refine pw_getI I5 E (c := 24) (k := 2) (pc' := 77) rfl rfl rfl rfl rfl rfl (fun hf6a hf6b hf6c hf6d => ?_)
        refine pw_sub E (pc' := 78) rfl rfl ?_
        refine pw_ld E (pc' := 79) (st' := [pw_i 4, pw_i ((pw_g h5 24 3) - (pw_g h5 24 2)), .ref 40]) rfl (fun _ => rfl) ?_
        refine pw_if2 E (pc' := 86) rfl (by decide) (by omega) (by omega) (by decide) (by decide) ?_ ?_
        · intro hc7
          have hc7 : (4 : Int) < (pw_g h5 24 3) - (pw_g h5 24 2) := hc7
          refine pw_ld E (pc' := 87) (st' := [pw_i 0, .ref 40]) rfl (fun _ => rfl) ?_
          refine pw_putI I5 E (c := 24) (k := 4) (pc' := 90) rfl rfl rfl rfl (by omega) (by omega) (by omega) (by omega) rfl rfl ?_
          intro h8I h8E
          generalize h8w : pw_w h5 24 4 (pw_i 0) = h8 at h8I h8E ⊢
          have h8F := E5.tr (h8E.wk (W' := [24]) (by first | rfl | simp))
          have he9 : pw_g h8 24 3 = pw_g h5 24 3 := by rw [← h8w]; exact pw_g_ne (by omega)
          have he10 : pw_g h8 24 4 = 0 := by rw [← h8w]; exact pw_g_eq (c := 24) (k := 4) I5 rfl rfl (by omega) (by omega)
          have he11 : pw_g h8 24 5 = pw_g h5 24 5 := by rw [← h8w]; exact pw_g_ne (by omega)
          refine pw_vret E rfl ?_
          exact ⟨h8I, h8F, ⟨by omega, rfl⟩⟩
        · intro hc12
          have hc12 : ¬ ((4 : Int) < (pw_g h5 24 3) - (pw_g h5 24 2)) := hc12
          refine pw_ld E (pc' := 83) (st' := [pw_i 2, .ref 40]) rfl (fun _ => rfl) ?_
          refine pw_goto E (pc' := 87) rfl (by decide) ?_
          refine pw_putI I5 E (c := 24) (k := 4) (pc' := 90) rfl rfl rfl rfl (by omega) (by omega) (by omega) (by omega) rfl rfl ?_
          intro h13I h13E
          generalize h13w : pw_w h5 24 4 (pw_i 2) = h13 at h13I h13E ⊢
          have h13F := E5.tr (h13E.wk (W' := [24]) (by first | rfl | simp))
          have he14 : pw_g h13 24 3 = pw_g h5 24 3 := by rw [← h13w]; exact pw_g_ne (by omega)
          have he15 : pw_g h13 24 4 = 2 := by rw [← h13w]; exact pw_g_eq (c := 24) (k := 4) I5 rfl rfl (by omega) (by omega)
          have he16 : pw_g h13 24 5 = pw_g h5 24 5 := by rw [← h13w]; exact pw_g_ne (by omega)
          refine pw_vret E rfl ?_
          exact ⟨h13I, h13F, ⟨by omega, rfl⟩⟩
      · intro hc17
        have hc17 : ¬ (pw_g h5 24 1 ≤ pw_g h5 24 3) := hc17
        refine pw_ld E (pc' := 17) (st' := [.ref 40]) rfl (fun _ => rfl) ?_
        refine pw_getR (b := 41) I5 E (c := 24) (k := 0) (pc' := 20) rfl rfl rfl rfl rfl rfl rfl ?_
        refine pw_ld E (pc' := 21) (st' := [.ref 40, .ref 41]) rfl (fun _ => rfl) ?_
        refine pw_getI I5 E (c := 24) (k := 3) (pc' := 24) rfl rfl rfl rfl rfl rfl (fun hf18a hf18b hf18c hf18d => ?_)
        refine pw_ald I5 E (c := 25) (pc' := 25) rfl rfl rfl (by decide) rfl (by decide) (by omega) (by omega) rfl (fun hf19a hf19b hf19c hf19d => ?_)
        refine pw_call (m' := 105) (As := [pw_i (pw_g h5 25 ((pw_g h5 24 3).toNat))]) (rest := []) (ls'' := [some (pw_i (pw_g h5 25 ((pw_g h5 24 3).toNat)))]) (by omega) E rfl (fun _ => pw_iS rfl rfl rfl) (rfl : pm_ent 105 = some (1, 1, 9, 1, pmc_105)) rfl rfl (cm_105_24 (by omega) I5 (pw_g h5 25 ((pw_g h5 24 3).toNat)) (by omega) (by omega)) ?_
        rintro u21 v20 ⟨rfl, x22, rfl, hx22a, hx22b, hx22r⟩
        refine ⟨_, rfl, ?_⟩
        show pw X d h5 106 28 [some (.ref 40)] [pw_i x22] _
        have hx22r : (x22 = 1 ∧ 48 ≤ (pw_g h5 25 ((pw_g h5 24 3).toNat)) ∧ (pw_g h5 25 ((pw_g h5 24 3).toNat)) ≤ 57) ∨ (x22 = 0 ∧ ¬ (48 ≤ (pw_g h5 25 ((pw_g h5 24 3).toNat)) ∧ (pw_g h5 25 ((pw_g h5 24 3).toNat)) ≤ 57)) := hx22r
        rcases (by omega : x22 = 1 ∨ x22 = 0) with hb23 | hb23
        · have hb23 : x22 = 1 := by omega
          refine pw_if E (pc' := 68) rfl (by decide) (by omega) (by omega) ?_ ?_
          · intro hc24
            have hc24 : x22 = (0 : Int) := hc24
            exfalso; omega
          · intro hc25
            have hc25 : ¬ (x22 = (0 : Int)) := hc25
            refine pw_ld E (pc' := 32) (st' := [.ref 40]) rfl (fun _ => rfl) ?_
            refine pw_ld E (pc' := 33) (st' := [.ref 40, .ref 40]) rfl (fun _ => rfl) ?_
            refine pw_getI I5 E (c := 24) (k := 5) (pc' := 36) rfl rfl rfl rfl rfl rfl (fun hf26a hf26b hf26c hf26d => ?_)
            refine pw_bip E (pc' := 38) rfl rfl (by decide) ?_
            refine pw_mul E (pc' := 39) rfl rfl ?_
            refine pw_nmE (fun x27 hx27a hx27b x27e => ?_)
            have x27e : (pw_g h5 24 5 * 10 < -2147483648 ∨ 2147483647 < pw_g h5 24 5 * 10) ∨ x27 = pw_g h5 24 5 * 10 := x27e
            refine pw_ld E (pc' := 40) (st' := [.ref 40, pw_i x27, .ref 40]) rfl (fun _ => rfl) ?_
            refine pw_getR (b := 41) I5 E (c := 24) (k := 0) (pc' := 43) rfl rfl rfl rfl rfl rfl rfl ?_
            refine pw_ld E (pc' := 44) (st' := [.ref 40, .ref 41, pw_i x27, .ref 40]) rfl (fun _ => rfl) ?_
            refine pw_getI I5 E (c := 24) (k := 3) (pc' := 47) rfl rfl rfl rfl rfl rfl (fun hf28a hf28b hf28c hf28d => ?_)
            refine pw_ald I5 E (c := 25) (pc' := 48) rfl rfl rfl (by decide) rfl (by decide) (by omega) (by omega) rfl (fun hf29a hf29b hf29c hf29d => ?_)
            refine pw_bip E (pc' := 50) rfl rfl (by decide) ?_
            refine pw_sub E (pc' := 51) rfl rfl ?_
            refine pw_add E (pc' := 52) rfl rfl ?_
            refine pw_nmE (fun x30 hx30a hx30b x30e => ?_)
            have x30e : (x27 + (pw_g h5 25 ((pw_g h5 24 3).toNat) - 48) < -2147483648 ∨ 2147483647 < x27 + (pw_g h5 25 ((pw_g h5 24 3).toNat) - 48)) ∨ x30 = x27 + (pw_g h5 25 ((pw_g h5 24 3).toNat) - 48) := x30e
            refine pw_putI I5 E (c := 24) (k := 5) (pc' := 55) rfl rfl rfl rfl (by omega) (by omega) (by omega) (by omega) rfl rfl ?_
            intro h31I h31E
            generalize h31w : pw_w h5 24 5 (pw_i x30) = h31 at h31I h31E ⊢
            have h31F := E5.tr (h31E.wk (W' := [24]) (by first | rfl | simp))
            refine pw_ld E (pc' := 56) (st' := [.ref 40]) rfl (fun _ => rfl) ?_
            refine pw_ld E (pc' := 57) (st' := [.ref 40, .ref 40]) rfl (fun _ => rfl) ?_
            have he33 : pw_g h31 24 3 = pw_g h5 24 3 := by rw [← h31w]; exact pw_g_ne (by omega)
            refine pw_getI h31I E (c := 24) (k := 3) (pc' := 60) rfl rfl rfl rfl rfl rfl (fun hf32a hf32b hf32c hf32d => ?_)
            refine pw_ld E (pc' := 61) (st' := [pw_i 1, pw_i (pw_g h31 24 3), .ref 40]) rfl (fun _ => rfl) ?_
            refine pw_add E (pc' := 62) rfl rfl ?_
            refine pw_putI h31I E (c := 24) (k := 3) (pc' := 65) rfl rfl rfl rfl (by omega) (by omega) (by omega) (by omega) rfl rfl ?_
            intro h34I h34E
            generalize h34w : pw_w h31 24 3 (pw_i ((pw_g h31 24 3) + 1)) = h34 at h34I h34E ⊢
            have h34F := h31F.tr (h34E.wk (W' := [24]) (by first | rfl | simp))
            refine pw_goto E (pc' := 5) rfl (by decide) ?_
            have he35 : pw_g h34 24 3 = (pw_g h31 24 3) + 1 := by rw [← h34w]; exact pw_g_eq (c := 24) (k := 3) h31I rfl rfl (by omega) (by omega)
            have he36 : pw_g h34 24 1 = pw_g h31 24 1 := by rw [← h34w]; exact pw_g_ne (by omega)
            have he37 : pw_g h31 24 1 = pw_g h5 24 1 := by rw [← h31w]; exact pw_g_ne (by omega)
            have he38 : pw_g h34 24 2 = pw_g h31 24 2 := by rw [← h34w]; exact pw_g_ne (by omega)
            have he39 : pw_g h31 24 2 = pw_g h5 24 2 := by rw [← h31w]; exact pw_g_ne (by omega)
            have he40 : pw_g h34 24 5 = pw_g h31 24 5 := by rw [← h34w]; exact pw_g_ne (by omega)
            have he41 : pw_g h31 24 5 = x30 := by rw [← h31w]; exact pw_g_eq (c := 24) (k := 5) I5 rfl rfl (by omega) (by omega)
            exact ih5 _ (by omega)  h34 h34I h34F  (by omega) (by omega) (by omega) (by omega) rfl
        · have hb42 : x22 = 0 := by omega
          have hne : pw_g h 24 3 + 1 ≤ pw_g h5 24 3 := by
            by_cases hq : pw_g h5 24 3 = pw_g h 24 3
            · rw [hq, pw_Eg (c := 25) I E5 rfl rfl _] at hx22r
              omega
            · omega
          refine pw_if E (pc' := 68) rfl (by decide) (by omega) (by omega) ?_ ?_
          · intro hc43
            have hc43 : x22 = (0 : Int) := hc43
            refine pw_ld E (pc' := 69) (st' := [.ref 40]) rfl (fun _ => rfl) ?_
            refine pw_ld E (pc' := 70) (st' := [.ref 40, .ref 40]) rfl (fun _ => rfl) ?_
            refine pw_getI I5 E (c := 24) (k := 3) (pc' := 73) rfl rfl rfl rfl rfl rfl (fun hf44a hf44b hf44c hf44d => ?_)
            refine pw_ld E (pc' := 74) (st' := [.ref 40, pw_i (pw_g h5 24 3), .ref 40]) rfl (fun _ => rfl) ?_
            refine pw_getI I5 E (c := 24) (k := 2) (pc' := 77) rfl rfl rfl rfl rfl rfl (fun hf45a hf45b hf45c hf45d => ?_)
            refine pw_sub E (pc' := 78) rfl rfl ?_
            refine pw_ld E (pc' := 79) (st' := [pw_i 4, pw_i ((pw_g h5 24 3) - (pw_g h5 24 2)), .ref 40]) rfl (fun _ => rfl) ?_
            refine pw_if2 E (pc' := 86) rfl (by decide) (by omega) (by omega) (by decide) (by decide) ?_ ?_
            · intro hc46
              have hc46 : (4 : Int) < (pw_g h5 24 3) - (pw_g h5 24 2) := hc46
              refine pw_ld E (pc' := 87) (st' := [pw_i 0, .ref 40]) rfl (fun _ => rfl) ?_
              refine pw_putI I5 E (c := 24) (k := 4) (pc' := 90) rfl rfl rfl rfl (by omega) (by omega) (by omega) (by omega) rfl rfl ?_
              intro h47I h47E
              generalize h47w : pw_w h5 24 4 (pw_i 0) = h47 at h47I h47E ⊢
              have h47F := E5.tr (h47E.wk (W' := [24]) (by first | rfl | simp))
              have he48 : pw_g h47 24 3 = pw_g h5 24 3 := by rw [← h47w]; exact pw_g_ne (by omega)
              have he49 : pw_g h47 24 4 = 0 := by rw [← h47w]; exact pw_g_eq (c := 24) (k := 4) I5 rfl rfl (by omega) (by omega)
              have he50 : pw_g h47 24 5 = pw_g h5 24 5 := by rw [← h47w]; exact pw_g_ne (by omega)
              refine pw_vret E rfl ?_
              exact ⟨h47I, h47F, ⟨by omega, rfl⟩⟩
            · intro hc51
              have hc51 : ¬ ((4 : Int) < (pw_g h5 24 3) - (pw_g h5 24 2)) := hc51
              refine pw_ld E (pc' := 83) (st' := [pw_i 2, .ref 40]) rfl (fun _ => rfl) ?_
              refine pw_goto E (pc' := 87) rfl (by decide) ?_
              refine pw_putI I5 E (c := 24) (k := 4) (pc' := 90) rfl rfl rfl rfl (by omega) (by omega) (by omega) (by omega) rfl rfl ?_
              intro h52I h52E
              generalize h52w : pw_w h5 24 4 (pw_i 2) = h52 at h52I h52E ⊢
              have h52F := E5.tr (h52E.wk (W' := [24]) (by first | rfl | simp))
              have he53 : pw_g h52 24 3 = pw_g h5 24 3 := by rw [← h52w]; exact pw_g_ne (by omega)
              have he54 : pw_g h52 24 4 = 2 := by rw [← h52w]; exact pw_g_eq (c := 24) (k := 4) I5 rfl rfl (by omega) (by omega)
              have he55 : pw_g h52 24 5 = pw_g h5 24 5 := by rw [← h52w]; exact pw_g_ne (by omega)
              refine pw_vret E rfl ?_
              exact ⟨h52I, h52F, ⟨by omega, rfl⟩⟩
          · intro hc56
            have hc56 : ¬ (x22 = (0 : Int)) := hc56
            exfalso; omega
  have he57 : pw_g h1 24 3 = pw_g h 24 3 := by rw [← h1w]; exact pw_g_ne (by omega)
  have he58 : pw_g h1 24 1 = pw_g h 24 1 := by rw [← h1w]; exact pw_g_ne (by omega)
  have he59 : pw_g h1 24 2 = pw_g h 24 2 := by rw [← h1w]; exact pw_g_ne (by omega)
  have he60 : pw_g h1 24 5 = 0 := by rw [← h1w]; exact pw_g_eq (c := 24) (k := 5) I rfl rfl (by omega) (by omega)
  exact L5 _  h1 h1I h1F  (by omega) (by omega) (by omega) (by omega) rfl
