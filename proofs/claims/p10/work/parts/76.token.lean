/-! the Readers: a token (printed by wip/tool/reader7.py) -/
/-- what holds of a Reader behind T tokens -/
def pw_Sr (c c1 : Nat) (h : pm_H) (T : Int) : Prop := (pw_g h 30 1 = 0 ∨ pw_g h 30 1 + 1 ≤ T) ∧ (1 ≤ pw_g h c 7 ∧ pw_g h c 7 ≤ 3 → pw_P c c1 h (T - 1))
theorem pw_SrP {c c1 : Nat} {h : pm_H} {T T' : Int} (P : pw_P c c1 h T') (ht : T' ≤ T) (h4 : 0 ≤ pw_g h c 4) : pw_Sr c c1 h (T + 1) := ⟨Or.inr (by have := P.2.2; omega), fun _ => P.wk (by omega)⟩
theorem pw_Sr0 {c c1 : Nat} {h h' : pm_H} {T : Int} (S : pw_Sr c c1 h T) (hl : pw_g h' 30 1 = pw_g h 30 1) (h0 : ¬ (1 ≤ pw_g h' c 7 ∧ pw_g h' c 7 ≤ 3)) : pw_Sr c c1 h' (T + 1) := ⟨by have := S.1; omega, fun hz => absurd hz h0⟩
theorem pw_Sr46 {c c1 : Nat} {h h' : pm_H} {T : Int} (S : pw_Sr c c1 h T) (hT : 0 ≤ T) (hl : pw_g h' 30 1 = pw_g h 30 1) (h0 : pw_g h c 7 = 0) (hp : pw_g h' c 7 = pw_g h c 7 ∨ (pw_g h' c 4 = 0 ∧ pw_g h' c 5 = 0 ∧ pw_g h' c 6 = 0)) : pw_Sr c c1 h' (T + 1) := by
  rcases hp with hp | ⟨z4, z5, z6⟩
  · exact pw_Sr0 S hl (by omega)
  · refine pw_SrP (T' := T) ⟨?_, by omega, by have := S.1; omega⟩ (Int.le_refl _) (by omega)
    unfold pw_J
    rw [z4, z5, z6]
    exact pw_Jw0 _
set_option maxHeartbeats 4000000 in
theorem cm_45_26 {X : List (Nat × List Value)} {d : Nat} {h : pm_H} (hd : 5 ≤ d) (I : pw_I h) (hX : pw_Xk X) (hR : pw_Xr X) {T : Int} (hT : 0 ≤ T) (hv : pw_g h 24 4 ≠ 2 ∨ 0 ≤ pw_g h 24 5) (S : pw_Sr 26 27 h T) : pw X d h 45 0 [some (.ref 42), some (.ref 40), some (.ref 46)] [] (fun h' v => pw_I h' ∧ pw_E [26, 27, 30, 31, 32, 33, 34, 36] h h' ∧ pw_Sr 26 27 h' (T + 1) ∧ ∃ a : Int, v = .inl (some (pw_i a)) ∧ 0 ≤ a ∧ a ≤ 5 ∧ (pw_g h 24 4 ≠ 4 ∨ a ≠ 0 ∨ pw_g h' 30 1 = pw_g h 30 1)) := by
  have E : pm_ent 45 = some (3, 3, 5, 0, pmc_45) := rfl
  have E0 : pw_E [26, 27, 30, 31, 32, 33, 34, 36] h h := pw_E.rf _ _
  refine pw_ld E (pc' := 1) (st' := [.ref 42]) rfl (fun _ => rfl) ?_
  refine pw_getI I E (c := 26) (k := 7) (pc' := 4) rfl rfl rfl rfl rfl rfl (fun hf1a hf1b hf1c hf1d => ?_)
  rcases (by omega : pw_g h 26 7 = 0 ∨ pw_g h 26 7 = 1 ∨ pw_g h 26 7 = 2 ∨ pw_g h 26 7 = 3 ∨ pw_g h 26 7 = 4 ∨ (pw_g h 26 7 < 0 ∨ 4 < pw_g h 26 7)) with hs2 | hs2 | hs2 | hs2 | hs2 | hs2
  · refine pw_tswJ (o := 36) E (pc' := 40) rfl (by omega) (by omega) (by omega) (by rw [hs2]; rfl) (by decide) ?_
    refine pw_ld E (pc' := 41) (st' := [.ref 42]) rfl (fun _ => rfl) ?_
    refine pw_ld E (pc' := 42) (st' := [.ref 40, .ref 42]) rfl (fun _ => rfl) ?_
    refine pw_ld E (pc' := 43) (st' := [.ref 46, .ref 40, .ref 42]) rfl (fun _ => rfl) ?_
    obtain ⟨f3l, f3h, -⟩ := pw_obj (c := 26) I rfl
    refine pw_call (m' := 46) (As := [.ref 42, .ref 40, .ref 46]) (rest := []) (ls'' := [some (.ref 42), some (.ref 40), some (.ref 46), none]) (by omega) E rfl (fun _ => pw_iV rfl rfl rfl rfl (pw_cellI f3h rfl)) (rfl : pm_ent 46 = some (3, 4, 5, 0, pmc_46)) rfl rfl (cm_46_26 (by omega) I hX ) ?_
    rintro h4 v5 ⟨h4I, h4E, hp, x6, rfl, hx6a, hx6b⟩
    have hl : pw_g h4 30 1 = pw_g h 30 1 := pw_Eg (c := 30) I h4E rfl rfl 1
    refine ⟨_, rfl, ?_⟩
    have h4F := E0.tr (h4E.wk (W' := [26, 27, 30, 31, 32, 33, 34, 36]) (by first | rfl | simp))
    show pw X d h4 45 46 [some (.ref 42), some (.ref 40), some (.ref 46)] [pw_i x6] _
    refine pw_iret E rfl ?_
    exact ⟨h4I, h4F, pw_Sr46 S hT hl hs2 hp, ⟨_, rfl, by omega, by omega, Or.inr (Or.inr hl)⟩⟩
  · refine pw_tswJ (o := 43) E (pc' := 47) rfl (by omega) (by omega) (by omega) (by rw [hs2]; rfl) (by decide) ?_
    refine pw_ld E (pc' := 48) (st' := [.ref 42]) rfl (fun _ => rfl) ?_
    refine pw_ld E (pc' := 49) (st' := [pw_i 2, .ref 42]) rfl (fun _ => rfl) ?_
    refine pw_putI I E (c := 26) (k := 7) (pc' := 52) rfl rfl rfl rfl (by omega) (by omega) (by omega) (by omega) rfl rfl ?_
    intro h7I h7E
    generalize h7w : pw_w h 26 7 (pw_i 2) = h7 at h7I h7E ⊢
    have hn : ∀ c' k', ¬ (26 = c' ∧ 7 = k') → pw_g h7 c' k' = pw_g h c' k' := fun c' k' hn => by rw [← h7w]; exact pw_g_ne hn
    have hx7 : pw_g h7 26 7 = 2 := by rw [← h7w]; exact pw_g_eq (c := 26) (k := 7) I rfl rfl (by omega) (by omega)
    have hk := hn 24 4 (by decide)
    have h4 := (pw_gI (c := 26) (k := 4) h7I rfl rfl).1
    have P7 := pw_Pof (S.2 (by omega)) (hn 26 4 (by decide)) (hn 26 5 (by decide)) (hn 26 6 (by decide)) (fun j => hn 27 j (by omega)) (hn 30 1 (by decide))
    have h7F := E0.tr (h7E.wk (W' := [26, 27, 30, 31, 32, 33, 34, 36]) (by first | rfl | simp))
    refine pw_ld E (pc' := 53) (st' := [.ref 40]) rfl (fun _ => rfl) ?_
    refine pw_ld E (pc' := 55) (st' := [.ref 9, .ref 40]) rfl (fun _ => rfl) ?_
    obtain ⟨f8l, f8h, -⟩ := pw_obj (c := 24) h7I rfl
    refine pw_call (m' := 108) (As := [.ref 40, .ref 9]) (rest := []) (ls'' := [some (.ref 40), some (.ref 9), none, none, none, none, none]) (by omega) E rfl (fun _ => pw_iV rfl rfl rfl rfl (pw_cellI f8h rfl)) (rfl : pm_ent 108 = some (2, 7, 9, 0, pmc_108)) rfl rfl (cm_108_24 (by omega) h7I hX 9 (by omega) (by omega)) ?_
    rintro u10 v9 ⟨rfl, x11, rfl, hx11a, hx11b, hz⟩
    refine ⟨_, rfl, ?_⟩
    show pw X d h7 45 58 [some (.ref 42), some (.ref 40), some (.ref 46)] [pw_i x11] _
    refine pw_if E (pc' := 65) rfl (by decide) (by omega) (by omega) ?_ ?_
    · intro hc12
      have hc12 : x11 ≠ (0 : Int) := hc12
      refine pw_ld E (pc' := 66) (st' := [pw_i 1]) rfl (fun _ => rfl) ?_
      refine pw_iret E rfl ?_
      exact ⟨h7I, h7F, pw_SrP P7 (by omega) h4, ⟨_, rfl, by omega, by omega, Or.inr (Or.inr (hn 30 1 (by decide)))⟩⟩
    · intro hc13
      have hc13 : ¬ (x11 ≠ (0 : Int)) := hc13
      refine pw_ld E (pc' := 62) (st' := [pw_i 0]) rfl (fun _ => rfl) ?_
      refine pw_goto E (pc' := 66) rfl (by decide) ?_
      refine pw_iret E rfl ?_
      exact ⟨h7I, h7F, pw_SrP P7 (by omega) h4, ⟨_, rfl, by omega, by omega, Or.inr (Or.inr (hn 30 1 (by decide)))⟩⟩
  · refine pw_tswJ (o := 63) E (pc' := 67) rfl (by omega) (by omega) (by omega) (by rw [hs2]; rfl) (by decide) ?_
    refine pw_ld E (pc' := 68) (st' := [.ref 42]) rfl (fun _ => rfl) ?_
    refine pw_ld E (pc' := 69) (st' := [.ref 40, .ref 42]) rfl (fun _ => rfl) ?_
    refine pw_ld E (pc' := 70) (st' := [.ref 46, .ref 40, .ref 42]) rfl (fun _ => rfl) ?_
    obtain ⟨f14l, f14h, -⟩ := pw_obj (c := 26) I rfl
    refine pw_call (m' := 47) (As := [.ref 42, .ref 40, .ref 46]) (rest := []) (ls'' := [some (.ref 42), some (.ref 40), some (.ref 46), none, none, none, none]) (by omega) E rfl (fun _ => pw_iV rfl rfl rfl rfl (pw_cellI f14h rfl)) (rfl : pm_ent 47 = some (3, 7, 5, 0, pmc_47)) rfl rfl (cm_47_26 (by omega) I hX (S.2 (by omega))) ?_
    rintro h15 v16 ⟨h15I, h15E, hp, x17, rfl, hx17a, hx17b, hz⟩
    have h4 := (pw_gI (c := 26) (k := 4) h15I rfl rfl).1
    refine ⟨_, rfl, ?_⟩
    have h15F := E0.tr (h15E.wk (W' := [26, 27, 30, 31, 32, 33, 34, 36]) (by first | rfl | simp))
    show pw X d h15 45 73 [some (.ref 42), some (.ref 40), some (.ref 46)] [pw_i x17] _
    refine pw_iret E rfl ?_
    exact ⟨h15I, h15F, pw_SrP hp (by omega) h4, ⟨_, rfl, by omega, by omega, by omega⟩⟩
  · refine pw_tswJ (o := 70) E (pc' := 74) rfl (by omega) (by omega) (by omega) (by rw [hs2]; rfl) (by decide) ?_
    refine pw_ld E (pc' := 75) (st' := [.ref 42]) rfl (fun _ => rfl) ?_
    refine pw_ld E (pc' := 76) (st' := [.ref 40, .ref 42]) rfl (fun _ => rfl) ?_
    refine pw_ld E (pc' := 77) (st' := [.ref 46, .ref 40, .ref 42]) rfl (fun _ => rfl) ?_
    obtain ⟨f18l, f18h, -⟩ := pw_obj (c := 26) I rfl
    refine pw_call (m' := 50) (As := [.ref 42, .ref 40, .ref 46]) (rest := []) (ls'' := [some (.ref 42), some (.ref 40), some (.ref 46), none, none]) (by omega) E rfl (fun _ => pw_iV rfl rfl rfl rfl (pw_cellI f18h rfl)) (rfl : pm_ent 50 = some (3, 5, 5, 0, pmc_50)) rfl rfl (cm_50_26 (by omega) I hX hR (S.2 (by omega))) ?_
    rintro h19 v20 ⟨h19I, h19E, hp, x21, rfl, hx21a, hx21b, hz⟩
    have h4 := (pw_gI (c := 26) (k := 4) h19I rfl rfl).1
    refine ⟨_, rfl, ?_⟩
    have h19F := E0.tr (h19E.wk (W' := [26, 27, 30, 31, 32, 33, 34, 36]) (by first | rfl | simp))
    show pw X d h19 45 80 [some (.ref 42), some (.ref 40), some (.ref 46)] [pw_i x21] _
    refine pw_iret E rfl ?_
    exact ⟨h19I, h19F, pw_SrP hp (by omega) h4, ⟨_, rfl, by omega, by omega, by omega⟩⟩
  · refine pw_tswJ (o := 77) E (pc' := 81) rfl (by omega) (by omega) (by omega) (by rw [hs2]; rfl) (by decide) ?_
    refine pw_ld E (pc' := 82) (st' := [.ref 42]) rfl (fun _ => rfl) ?_
    refine pw_ld E (pc' := 83) (st' := [.ref 40, .ref 42]) rfl (fun _ => rfl) ?_
    refine pw_ld E (pc' := 84) (st' := [.ref 46, .ref 40, .ref 42]) rfl (fun _ => rfl) ?_
    obtain ⟨f22l, f22h, -⟩ := pw_obj (c := 26) I rfl
    refine pw_call (m' := 56) (As := [.ref 42, .ref 40, .ref 46]) (rest := []) (ls'' := [some (.ref 42), some (.ref 40), some (.ref 46)]) (by omega) E rfl (fun _ => pw_iV rfl rfl rfl rfl (pw_cellI f22h rfl)) (rfl : pm_ent 56 = some (3, 3, 5, 0, pmc_56)) rfl rfl (cm_56_26 (by omega) I hX hv) ?_
    rintro h23 v24 ⟨h23I, h23E, hp, x25, rfl, hx25a, hx25b, hz⟩
    have hl : pw_g h23 30 1 = pw_g h 30 1 := pw_Eg (c := 30) I h23E rfl rfl 1
    refine ⟨_, rfl, ?_⟩
    have h23F := E0.tr (h23E.wk (W' := [26, 27, 30, 31, 32, 33, 34, 36]) (by first | rfl | simp))
    show pw X d h23 45 87 [some (.ref 42), some (.ref 40), some (.ref 46)] [pw_i x25] _
    refine pw_iret E rfl ?_
    exact ⟨h23I, h23F, pw_Sr0 S hl (by omega), ⟨_, rfl, by omega, by omega, Or.inr (Or.inr hl)⟩⟩
  · refine pw_tswD E (pc' := 88) rfl (by omega) (by omega) hs2 (by decide) ?_
    refine pw_ld E (pc' := 89) (st' := [.ref 42]) rfl (fun _ => rfl) ?_
    refine pw_ld E (pc' := 90) (st' := [pw_i 0, .ref 42]) rfl (fun _ => rfl) ?_
    refine pw_putI I E (c := 26) (k := 7) (pc' := 93) rfl rfl rfl rfl (by omega) (by omega) (by omega) (by omega) rfl rfl ?_
    intro h26I h26E
    generalize h26w : pw_w h 26 7 (pw_i 0) = h26 at h26I h26E ⊢
    have hn : ∀ c' k', ¬ (26 = c' ∧ 7 = k') → pw_g h26 c' k' = pw_g h c' k' := fun c' k' hn => by rw [← h26w]; exact pw_g_ne hn
    have hx7 : pw_g h26 26 7 = 0 := by rw [← h26w]; exact pw_g_eq (c := 26) (k := 7) I rfl rfl (by omega) (by omega)
    have hk := hn 24 4 (by decide)
    have h26F := E0.tr (h26E.wk (W' := [26, 27, 30, 31, 32, 33, 34, 36]) (by first | rfl | simp))
    refine pw_ld E (pc' := 94) (st' := [.ref 40]) rfl (fun _ => rfl) ?_
    refine pw_bip E (pc' := 96) rfl rfl (by decide) ?_
    obtain ⟨f27l, f27h, -⟩ := pw_obj (c := 24) h26I rfl
    refine pw_call (m' := 109) (As := [.ref 40, pw_i 59]) (rest := []) (ls'' := [some (.ref 40), some (pw_i 59)]) (by omega) E rfl (fun _ => pw_iV rfl rfl rfl rfl (pw_cellI f27h rfl)) (rfl : pm_ent 109 = some (2, 2, 9, 1, pmc_109)) rfl rfl (cm_109_24 (by omega) h26I (59) (by omega) (by omega)) ?_
    rintro u29 v28 ⟨rfl, x30, rfl, hx30a, hx30b, hz⟩
    refine ⟨_, rfl, ?_⟩
    show pw X d h26 45 99 [some (.ref 42), some (.ref 40), some (.ref 46)] [pw_i x30] _
    refine pw_if E (pc' := 106) rfl (by decide) (by omega) (by omega) ?_ ?_
    · intro hc31
      have hc31 : x30 = (0 : Int) := hc31
      refine pw_ld E (pc' := 107) (st' := [pw_i 1]) rfl (fun _ => rfl) ?_
      refine pw_iret E rfl ?_
      exact ⟨h26I, h26F, pw_Sr0 S (hn 30 1 (by decide)) (by omega), ⟨_, rfl, by omega, by omega, Or.inr (Or.inr (hn 30 1 (by decide)))⟩⟩
    · intro hc32
      have hc32 : ¬ (x30 = (0 : Int)) := hc32
      refine pw_ld E (pc' := 103) (st' := [pw_i 0]) rfl (fun _ => rfl) ?_
      refine pw_goto E (pc' := 107) rfl (by decide) ?_
      refine pw_iret E rfl ?_
      exact ⟨h26I, h26F, pw_Sr0 S (hn 30 1 (by decide)) (by omega), ⟨_, rfl, by omega, by omega, Or.inr (Or.inr (hn 30 1 (by decide)))⟩⟩
set_option maxHeartbeats 4000000 in
theorem cm_45_28 {X : List (Nat × List Value)} {d : Nat} {h : pm_H} (hd : 5 ≤ d) (I : pw_I h) (hX : pw_Xk X) (hR : pw_Xr X) {T : Int} (hT : 0 ≤ T) (hv : pw_g h 24 4 ≠ 2 ∨ 0 ≤ pw_g h 24 5) (S : pw_Sr 28 29 h T) : pw X d h 45 0 [some (.ref 44), some (.ref 40), some (.ref 46)] [] (fun h' v => pw_I h' ∧ pw_E [28, 29, 30, 31, 32, 33, 34, 36] h h' ∧ pw_Sr 28 29 h' (T + 1) ∧ ∃ a : Int, v = .inl (some (pw_i a)) ∧ 0 ≤ a ∧ a ≤ 5 ∧ (pw_g h 24 4 ≠ 4 ∨ a ≠ 0 ∨ pw_g h' 30 1 = pw_g h 30 1)) := by
  have E : pm_ent 45 = some (3, 3, 5, 0, pmc_45) := rfl
  have E0 : pw_E [28, 29, 30, 31, 32, 33, 34, 36] h h := pw_E.rf _ _
  refine pw_ld E (pc' := 1) (st' := [.ref 44]) rfl (fun _ => rfl) ?_
  refine pw_getI I E (c := 28) (k := 7) (pc' := 4) rfl rfl rfl rfl rfl rfl (fun hf1a hf1b hf1c hf1d => ?_)
  rcases (by omega : pw_g h 28 7 = 0 ∨ pw_g h 28 7 = 1 ∨ pw_g h 28 7 = 2 ∨ pw_g h 28 7 = 3 ∨ pw_g h 28 7 = 4 ∨ (pw_g h 28 7 < 0 ∨ 4 < pw_g h 28 7)) with hs2 | hs2 | hs2 | hs2 | hs2 | hs2
  · refine pw_tswJ (o := 36) E (pc' := 40) rfl (by omega) (by omega) (by omega) (by rw [hs2]; rfl) (by decide) ?_
    refine pw_ld E (pc' := 41) (st' := [.ref 44]) rfl (fun _ => rfl) ?_
    refine pw_ld E (pc' := 42) (st' := [.ref 40, .ref 44]) rfl (fun _ => rfl) ?_
    refine pw_ld E (pc' := 43) (st' := [.ref 46, .ref 40, .ref 44]) rfl (fun _ => rfl) ?_
    obtain ⟨f3l, f3h, -⟩ := pw_obj (c := 28) I rfl
    refine pw_call (m' := 46) (As := [.ref 44, .ref 40, .ref 46]) (rest := []) (ls'' := [some (.ref 44), some (.ref 40), some (.ref 46), none]) (by omega) E rfl (fun _ => pw_iV rfl rfl rfl rfl (pw_cellI f3h rfl)) (rfl : pm_ent 46 = some (3, 4, 5, 0, pmc_46)) rfl rfl (cm_46_28 (by omega) I hX ) ?_
    rintro h4 v5 ⟨h4I, h4E, hp, x6, rfl, hx6a, hx6b⟩
    have hl : pw_g h4 30 1 = pw_g h 30 1 := pw_Eg (c := 30) I h4E rfl rfl 1
    refine ⟨_, rfl, ?_⟩
    have h4F := E0.tr (h4E.wk (W' := [28, 29, 30, 31, 32, 33, 34, 36]) (by first | rfl | simp))
    show pw X d h4 45 46 [some (.ref 44), some (.ref 40), some (.ref 46)] [pw_i x6] _
    refine pw_iret E rfl ?_
    exact ⟨h4I, h4F, pw_Sr46 S hT hl hs2 hp, ⟨_, rfl, by omega, by omega, Or.inr (Or.inr hl)⟩⟩
  · refine pw_tswJ (o := 43) E (pc' := 47) rfl (by omega) (by omega) (by omega) (by rw [hs2]; rfl) (by decide) ?_
    refine pw_ld E (pc' := 48) (st' := [.ref 44]) rfl (fun _ => rfl) ?_
    refine pw_ld E (pc' := 49) (st' := [pw_i 2, .ref 44]) rfl (fun _ => rfl) ?_
    refine pw_putI I E (c := 28) (k := 7) (pc' := 52) rfl rfl rfl rfl (by omega) (by omega) (by omega) (by omega) rfl rfl ?_
    intro h7I h7E
    generalize h7w : pw_w h 28 7 (pw_i 2) = h7 at h7I h7E ⊢
    have hn : ∀ c' k', ¬ (28 = c' ∧ 7 = k') → pw_g h7 c' k' = pw_g h c' k' := fun c' k' hn => by rw [← h7w]; exact pw_g_ne hn
    have hx7 : pw_g h7 28 7 = 2 := by rw [← h7w]; exact pw_g_eq (c := 28) (k := 7) I rfl rfl (by omega) (by omega)
    have hk := hn 24 4 (by decide)
    have h4 := (pw_gI (c := 28) (k := 4) h7I rfl rfl).1
    have P7 := pw_Pof (S.2 (by omega)) (hn 28 4 (by decide)) (hn 28 5 (by decide)) (hn 28 6 (by decide)) (fun j => hn 29 j (by omega)) (hn 30 1 (by decide))
    have h7F := E0.tr (h7E.wk (W' := [28, 29, 30, 31, 32, 33, 34, 36]) (by first | rfl | simp))
    refine pw_ld E (pc' := 53) (st' := [.ref 40]) rfl (fun _ => rfl) ?_
    refine pw_ld E (pc' := 55) (st' := [.ref 9, .ref 40]) rfl (fun _ => rfl) ?_
    obtain ⟨f8l, f8h, -⟩ := pw_obj (c := 24) h7I rfl
    refine pw_call (m' := 108) (As := [.ref 40, .ref 9]) (rest := []) (ls'' := [some (.ref 40), some (.ref 9), none, none, none, none, none]) (by omega) E rfl (fun _ => pw_iV rfl rfl rfl rfl (pw_cellI f8h rfl)) (rfl : pm_ent 108 = some (2, 7, 9, 0, pmc_108)) rfl rfl (cm_108_24 (by omega) h7I hX 9 (by omega) (by omega)) ?_
    rintro u10 v9 ⟨rfl, x11, rfl, hx11a, hx11b, hz⟩
    refine ⟨_, rfl, ?_⟩
    show pw X d h7 45 58 [some (.ref 44), some (.ref 40), some (.ref 46)] [pw_i x11] _
    refine pw_if E (pc' := 65) rfl (by decide) (by omega) (by omega) ?_ ?_
    · intro hc12
      have hc12 : x11 ≠ (0 : Int) := hc12
      refine pw_ld E (pc' := 66) (st' := [pw_i 1]) rfl (fun _ => rfl) ?_
      refine pw_iret E rfl ?_
      exact ⟨h7I, h7F, pw_SrP P7 (by omega) h4, ⟨_, rfl, by omega, by omega, Or.inr (Or.inr (hn 30 1 (by decide)))⟩⟩
    · intro hc13
      have hc13 : ¬ (x11 ≠ (0 : Int)) := hc13
      refine pw_ld E (pc' := 62) (st' := [pw_i 0]) rfl (fun _ => rfl) ?_
      refine pw_goto E (pc' := 66) rfl (by decide) ?_
      refine pw_iret E rfl ?_
      exact ⟨h7I, h7F, pw_SrP P7 (by omega) h4, ⟨_, rfl, by omega, by omega, Or.inr (Or.inr (hn 30 1 (by decide)))⟩⟩
  · refine pw_tswJ (o := 63) E (pc' := 67) rfl (by omega) (by omega) (by omega) (by rw [hs2]; rfl) (by decide) ?_
    refine pw_ld E (pc' := 68) (st' := [.ref 44]) rfl (fun _ => rfl) ?_
    refine pw_ld E (pc' := 69) (st' := [.ref 40, .ref 44]) rfl (fun _ => rfl) ?_
    refine pw_ld E (pc' := 70) (st' := [.ref 46, .ref 40, .ref 44]) rfl (fun _ => rfl) ?_
    obtain ⟨f14l, f14h, -⟩ := pw_obj (c := 28) I rfl
    refine pw_call (m' := 47) (As := [.ref 44, .ref 40, .ref 46]) (rest := []) (ls'' := [some (.ref 44), some (.ref 40), some (.ref 46), none, none, none, none]) (by omega) E rfl (fun _ => pw_iV rfl rfl rfl rfl (pw_cellI f14h rfl)) (rfl : pm_ent 47 = some (3, 7, 5, 0, pmc_47)) rfl rfl (cm_47_28 (by omega) I hX (S.2 (by omega))) ?_
    rintro h15 v16 ⟨h15I, h15E, hp, x17, rfl, hx17a, hx17b, hz⟩
    have h4 := (pw_gI (c := 28) (k := 4) h15I rfl rfl).1
    refine ⟨_, rfl, ?_⟩
    have h15F := E0.tr (h15E.wk (W' := [28, 29, 30, 31, 32, 33, 34, 36]) (by first | rfl | simp))
    show pw X d h15 45 73 [some (.ref 44), some (.ref 40), some (.ref 46)] [pw_i x17] _
    refine pw_iret E rfl ?_
    exact ⟨h15I, h15F, pw_SrP hp (by omega) h4, ⟨_, rfl, by omega, by omega, by omega⟩⟩
  · refine pw_tswJ (o := 70) E (pc' := 74) rfl (by omega) (by omega) (by omega) (by rw [hs2]; rfl) (by decide) ?_
    refine pw_ld E (pc' := 75) (st' := [.ref 44]) rfl (fun _ => rfl) ?_
    refine pw_ld E (pc' := 76) (st' := [.ref 40, .ref 44]) rfl (fun _ => rfl) ?_
    refine pw_ld E (pc' := 77) (st' := [.ref 46, .ref 40, .ref 44]) rfl (fun _ => rfl) ?_
    obtain ⟨f18l, f18h, -⟩ := pw_obj (c := 28) I rfl
    refine pw_call (m' := 50) (As := [.ref 44, .ref 40, .ref 46]) (rest := []) (ls'' := [some (.ref 44), some (.ref 40), some (.ref 46), none, none]) (by omega) E rfl (fun _ => pw_iV rfl rfl rfl rfl (pw_cellI f18h rfl)) (rfl : pm_ent 50 = some (3, 5, 5, 0, pmc_50)) rfl rfl (cm_50_28 (by omega) I hX hR (S.2 (by omega))) ?_
    rintro h19 v20 ⟨h19I, h19E, hp, x21, rfl, hx21a, hx21b, hz⟩
    have h4 := (pw_gI (c := 28) (k := 4) h19I rfl rfl).1
    refine ⟨_, rfl, ?_⟩
    have h19F := E0.tr (h19E.wk (W' := [28, 29, 30, 31, 32, 33, 34, 36]) (by first | rfl | simp))
    show pw X d h19 45 80 [some (.ref 44), some (.ref 40), some (.ref 46)] [pw_i x21] _
    refine pw_iret E rfl ?_
    exact ⟨h19I, h19F, pw_SrP hp (by omega) h4, ⟨_, rfl, by omega, by omega, by omega⟩⟩
  · refine pw_tswJ (o := 77) E (pc' := 81) rfl (by omega) (by omega) (by omega) (by rw [hs2]; rfl) (by decide) ?_
    refine pw_ld E (pc' := 82) (st' := [.ref 44]) rfl (fun _ => rfl) ?_
    refine pw_ld E (pc' := 83) (st' := [.ref 40, .ref 44]) rfl (fun _ => rfl) ?_
    refine pw_ld E (pc' := 84) (st' := [.ref 46, .ref 40, .ref 44]) rfl (fun _ => rfl) ?_
    obtain ⟨f22l, f22h, -⟩ := pw_obj (c := 28) I rfl
    refine pw_call (m' := 56) (As := [.ref 44, .ref 40, .ref 46]) (rest := []) (ls'' := [some (.ref 44), some (.ref 40), some (.ref 46)]) (by omega) E rfl (fun _ => pw_iV rfl rfl rfl rfl (pw_cellI f22h rfl)) (rfl : pm_ent 56 = some (3, 3, 5, 0, pmc_56)) rfl rfl (cm_56_28 (by omega) I hX hv) ?_
    rintro h23 v24 ⟨h23I, h23E, hp, x25, rfl, hx25a, hx25b, hz⟩
    have hl : pw_g h23 30 1 = pw_g h 30 1 := pw_Eg (c := 30) I h23E rfl rfl 1
    refine ⟨_, rfl, ?_⟩
    have h23F := E0.tr (h23E.wk (W' := [28, 29, 30, 31, 32, 33, 34, 36]) (by first | rfl | simp))
    show pw X d h23 45 87 [some (.ref 44), some (.ref 40), some (.ref 46)] [pw_i x25] _
    refine pw_iret E rfl ?_
    exact ⟨h23I, h23F, pw_Sr0 S hl (by omega), ⟨_, rfl, by omega, by omega, Or.inr (Or.inr hl)⟩⟩
  · refine pw_tswD E (pc' := 88) rfl (by omega) (by omega) hs2 (by decide) ?_
    refine pw_ld E (pc' := 89) (st' := [.ref 44]) rfl (fun _ => rfl) ?_
    refine pw_ld E (pc' := 90) (st' := [pw_i 0, .ref 44]) rfl (fun _ => rfl) ?_
    refine pw_putI I E (c := 28) (k := 7) (pc' := 93) rfl rfl rfl rfl (by omega) (by omega) (by omega) (by omega) rfl rfl ?_
    intro h26I h26E
    generalize h26w : pw_w h 28 7 (pw_i 0) = h26 at h26I h26E ⊢
    have hn : ∀ c' k', ¬ (28 = c' ∧ 7 = k') → pw_g h26 c' k' = pw_g h c' k' := fun c' k' hn => by rw [← h26w]; exact pw_g_ne hn
    have hx7 : pw_g h26 28 7 = 0 := by rw [← h26w]; exact pw_g_eq (c := 28) (k := 7) I rfl rfl (by omega) (by omega)
    have hk := hn 24 4 (by decide)
    have h26F := E0.tr (h26E.wk (W' := [28, 29, 30, 31, 32, 33, 34, 36]) (by first | rfl | simp))
    refine pw_ld E (pc' := 94) (st' := [.ref 40]) rfl (fun _ => rfl) ?_
    refine pw_bip E (pc' := 96) rfl rfl (by decide) ?_
    obtain ⟨f27l, f27h, -⟩ := pw_obj (c := 24) h26I rfl
    refine pw_call (m' := 109) (As := [.ref 40, pw_i 59]) (rest := []) (ls'' := [some (.ref 40), some (pw_i 59)]) (by omega) E rfl (fun _ => pw_iV rfl rfl rfl rfl (pw_cellI f27h rfl)) (rfl : pm_ent 109 = some (2, 2, 9, 1, pmc_109)) rfl rfl (cm_109_24 (by omega) h26I (59) (by omega) (by omega)) ?_
    rintro u29 v28 ⟨rfl, x30, rfl, hx30a, hx30b, hz⟩
    refine ⟨_, rfl, ?_⟩
    show pw X d h26 45 99 [some (.ref 44), some (.ref 40), some (.ref 46)] [pw_i x30] _
    refine pw_if E (pc' := 106) rfl (by decide) (by omega) (by omega) ?_ ?_
    · intro hc31
      have hc31 : x30 = (0 : Int) := hc31
      refine pw_ld E (pc' := 107) (st' := [pw_i 1]) rfl (fun _ => rfl) ?_
      refine pw_iret E rfl ?_
      exact ⟨h26I, h26F, pw_Sr0 S (hn 30 1 (by decide)) (by omega), ⟨_, rfl, by omega, by omega, Or.inr (Or.inr (hn 30 1 (by decide)))⟩⟩
    · intro hc32
      have hc32 : ¬ (x30 = (0 : Int)) := hc32
      refine pw_ld E (pc' := 103) (st' := [pw_i 0]) rfl (fun _ => rfl) ?_
      refine pw_goto E (pc' := 107) rfl (by decide) ?_
      refine pw_iret E rfl ?_
      exact ⟨h26I, h26F, pw_Sr0 S (hn 30 1 (by decide)) (by omega), ⟨_, rfl, by omega, by omega, Or.inr (Or.inr (hn 30 1 (by decide)))⟩⟩
