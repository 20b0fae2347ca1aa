/-! the Readers: a closing bracket, the end of a line (printed by wip/tool/reader2.py) -/
/-- what holds of a Reader inside a line: T is a bound of what is written and what waits -/
def pw_P (c c1 : Nat) (h : pm_H) (T : Int) : Prop := pw_J c c1 h (pw_g h c 5) (pw_g h c 6) ∧ 0 ≤ pw_g h c 6 ∧ pw_g h 30 1 + pw_g h c 4 ≤ T
theorem pw_Pof {c c1 : Nat} {h h' : pm_H} {T : Int} (P : pw_P c c1 h T) (h4 : pw_g h' c 4 = pw_g h c 4) (h5 : pw_g h' c 5 = pw_g h c 5) (h6 : pw_g h' c 6 = pw_g h c 6) (hw : ∀ j, pw_g h' c1 j = pw_g h c1 j) (hl : pw_g h' 30 1 = pw_g h 30 1) : pw_P c c1 h' T := by
  obtain ⟨p1, p2, p3⟩ := P
  refine ⟨?_, by omega, by omega⟩
  rw [h5, h6]
  exact pw_Jof (h := h) p1 hw (by rw [h4])
theorem pw_P.wk {c c1 : Nat} {h : pm_H} {T T' : Int} (P : pw_P c c1 h T) (ht : T ≤ T') : pw_P c c1 h T' := ⟨P.1, P.2.1, by have := P.2.2; omega⟩
theorem pw_Pb {c c1 : Nat} {h : pm_H} {T : Int} (P : pw_P c c1 h T) : 0 ≤ pw_g h c 5 ∧ pw_g h c 5 ≤ 5 ∧ pw_g h c 6 ≤ 29 := by
  obtain ⟨p1, p2, p3⟩ := P
  have p1 : pw_Jw (fun j => pw_g h c1 j) (pw_g h c 4).toNat (pw_g h c 5) (pw_g h c 6) := p1
  have a := p1.le
  have b := pw_o9_le (fun j => pw_g h c1 j) (pw_g h c 4).toNat
  obtain ⟨-, -, z1, z2, z3⟩ := p1
  omega
set_option maxHeartbeats 4000000 in
theorem cm_51_26 {X : List (Nat × List Value)} {d : Nat} {h : pm_H} (hd : 3 ≤ d) (I : pw_I h) (hR : pw_Xr X) {T : Int} (P : pw_P 26 27 h T) : pw X d h 51 0 [some (.ref 42), some (.ref 46)] [] (fun h' v => pw_I h' ∧ pw_E [26, 27, 30, 33, 36] h h' ∧ pw_P 26 27 h' T ∧ ∃ a : Int, v = .inl (some (pw_i a)) ∧ 0 ≤ a ∧ a ≤ 1) := by
  have E : pm_ent 51 = some (2, 2, 5, 0, pmc_51) := rfl
  have E0 : pw_E [26, 27, 30, 33, 36] h h := pw_E.rf _ _
  refine pw_ld E (pc' := 1) (st' := [.ref 42]) rfl (fun _ => rfl) ?_
  refine pw_getI I E (c := 26) (k := 6) (pc' := 4) rfl rfl rfl rfl rfl rfl (fun hf1a hf1b hf1c hf1d => ?_)
  refine pw_if E (pc' := 9) rfl (by decide) (by omega) (by omega) ?_ ?_
  · intro hc2
    refine pw_ld E (pc' := 10) (st' := [.ref 42]) rfl (fun _ => rfl) ?_
    refine pw_ld E (pc' := 11) (st' := [pw_i 1, .ref 42]) rfl (fun _ => rfl) ?_
    refine pw_ld E (pc' := 12) (st' := [.ref 46, pw_i 1, .ref 42]) rfl (fun _ => rfl) ?_
    obtain ⟨f1l, f1h, -⟩ := pw_obj (c := 26) I rfl
    refine pw_call (m' := 52) (As := [.ref 42, pw_i 1, .ref 46]) (rest := []) (ls'' := [some (.ref 42), some (pw_i 1), some (.ref 46)]) (by omega) E rfl (fun _ => pw_iV rfl rfl rfl rfl (pw_cellI f1h rfl)) (rfl : pm_ent 52 = some (3, 3, 5, 4, pmc_52)) rfl rfl (cm_52_26 (by omega) hR 1 (by decide) (by decide) _ I rfl P.1) ?_
    rintro h1 v3 ⟨h1I, h1E, ⟨h1J, h1t, h1p, h1k⟩, rfl⟩
    refine ⟨_, rfl, ?_⟩
    show pw X d h1 51 15 [some (.ref 42), some (.ref 46)] [] _
    have h1F := E0.tr (h1E.wk (W' := [26, 27, 30, 33, 36]) (by first | rfl | simp))
    have P1 : pw_P 26 27 h1 T := ⟨by rw [h1k 5 (by decide), h1k 6 (by decide)]; exact h1J, by rw [h1k 6 (by decide)]; exact P.2.1, by have := P.2.2; omega⟩
    refine pw_ld E (pc' := 16) (st' := [.ref 42]) rfl (fun _ => rfl) ?_
    refine pw_ld E (pc' := 17) (st' := [pw_i 0, .ref 42]) rfl (fun _ => rfl) ?_
    refine pw_putI h1I E (c := 26) (k := 7) (pc' := 20) rfl rfl rfl rfl (by decide) (by decide) (by decide) (by decide) rfl rfl ?_
    intro h2I h2E
    generalize h2w : pw_w h1 26 7 (pw_i 0) = h2 at h2I h2E ⊢
    have h2F := h1F.tr (h2E.wk (W' := [26, 27, 30, 33, 36]) (by first | rfl | simp))
    have hn2 : ∀ c' k', ¬ (26 = c' ∧ 7 = k') → pw_g h2 c' k' = pw_g h1 c' k' := fun c' k' hn => by rw [← h2w]; exact pw_g_ne hn
    refine pw_ld E (pc' := 21) (st' := [pw_i 0]) rfl (fun _ => rfl) ?_
    refine pw_iret E rfl ?_
    exact ⟨h2I, h2F, pw_Pof P1 (hn2 _ _ (by decide)) (hn2 _ _ (by decide)) (hn2 _ _ (by decide)) (fun j => hn2 _ _ (by omega)) (hn2 _ _ (by decide)), ⟨_, rfl, by omega, by omega⟩⟩
  · intro hc3
    refine pw_ld E (pc' := 8) (st' := [pw_i 1]) rfl (fun _ => rfl) ?_
    refine pw_iret E rfl ?_
    exact ⟨I, E0, P, ⟨_, rfl, by omega, by omega⟩⟩
set_option maxHeartbeats 4000000 in
theorem cm_54_26 {X : List (Nat × List Value)} {d : Nat} {h : pm_H} (hd : 3 ≤ d) (I : pw_I h) (hR : pw_Xr X) {T : Int} (P : pw_P 26 27 h T) : pw X d h 54 0 [some (.ref 42), some (.ref 46)] [] (fun h' v => pw_I h' ∧ pw_E [26, 27, 30, 33, 36] h h' ∧ pw_P 26 27 h' T ∧ ∃ a : Int, v = .inl (some (pw_i a)) ∧ 0 ≤ a ∧ a ≤ 1) := by
  have E : pm_ent 54 = some (2, 2, 5, 0, pmc_54) := rfl
  have E0 : pw_E [26, 27, 30, 33, 36] h h := pw_E.rf _ _
  have hp6 := P.2.1
  refine pw_ld E (pc' := 1) (st' := [.ref 42]) rfl (fun _ => rfl) ?_
  refine pw_getI I E (c := 26) (k := 6) (pc' := 4) rfl rfl rfl rfl rfl rfl (fun hf1a hf1b hf1c hf1d => ?_)
  refine pw_if E (pc' := 9) rfl (by decide) (by omega) (by omega) ?_ ?_
  · intro hc2
    have hc2 : pw_g h 26 6 ≠ (0 : Int) := hc2
    refine pw_ld E (pc' := 10) (st' := [.ref 42]) rfl (fun _ => rfl) ?_
    refine pw_ld E (pc' := 11) (st' := [pw_i 1, .ref 42]) rfl (fun _ => rfl) ?_
    refine pw_ld E (pc' := 12) (st' := [.ref 46, pw_i 1, .ref 42]) rfl (fun _ => rfl) ?_
    obtain ⟨f1l, f1h, -⟩ := pw_obj (c := 26) I rfl
    refine pw_call (m' := 52) (As := [.ref 42, pw_i 1, .ref 46]) (rest := []) (ls'' := [some (.ref 42), some (pw_i 1), some (.ref 46)]) (by omega) E rfl (fun _ => pw_iV rfl rfl rfl rfl (pw_cellI f1h rfl)) (rfl : pm_ent 52 = some (3, 3, 5, 4, pmc_52)) rfl rfl (cm_52_26 (by omega) hR 1 (by decide) (by decide) _ I rfl P.1) ?_
    rintro h1 v3 ⟨h1I, h1E, ⟨h1J, h1t, h1p, h1k⟩, rfl⟩
    refine ⟨_, rfl, ?_⟩
    show pw X d h1 54 15 [some (.ref 42), some (.ref 46)] [] _
    have h1F := E0.tr (h1E.wk (W' := [26, 27, 30, 33, 36]) (by first | rfl | simp))
    have k5 := h1k 5 (by decide)
    have k6 := h1k 6 (by decide)
    have P1 : pw_P 26 27 h1 T := ⟨by rw [k5, k6]; exact h1J, by rw [k6]; exact P.2.1, by have := P.2.2; omega⟩
    obtain ⟨b1, b2, b3⟩ := pw_Pb P1
    have hpos : 0 < (pw_g h1 26 4).toNat := pw_Jw.pos P1.1 (by omega)
    obtain ⟨k, hk⟩ : ∃ k : Nat, pw_g h1 26 4 = (k : Int) + 1 := ⟨(pw_g h1 26 4 - 1).toNat, by omega⟩
    have hJk := pw_Jk P1.1 hk
    have ht := pw_tr1 (c1 := 27) hk
    have h8 : 8 ≤ pw_g h1 27 k := by
      by_cases h8 : 8 ≤ pw_g h1 27 k
      · exact h8
      · have z := pw_rk1 (hJk.1 k (by omega)).1 h8
        have z : 1 ≤ pw_rk (pw_g h1 27 k) := z
        omega
    have hJ2 := hJk.pop.2.2 h8
    have hP2 := P1.2.2
    refine pw_ld E (pc' := 16) (st' := [.ref 42]) rfl (fun _ => rfl) ?_
    refine pw_ld E (pc' := 17) (st' := [.ref 42, .ref 42]) rfl (fun _ => rfl) ?_
    refine pw_getI h1I E (c := 26) (k := 4) (pc' := 20) rfl rfl rfl rfl rfl rfl (fun hf9a hf9b hf9c hf9d => ?_)
    refine pw_ld E (pc' := 21) (st' := [pw_i 1, pw_i (pw_g h1 26 4), .ref 42]) rfl (fun _ => rfl) ?_
    refine pw_sub E (pc' := 22) rfl rfl ?_
    refine pw_putI h1I E (c := 26) (k := 4) (pc' := 25) rfl rfl rfl rfl (by omega) (by omega) (by omega) (by omega) rfl rfl ?_
    intro h2I h2E
    generalize h2w : pw_w h1 26 4 (pw_i ((pw_g h1 26 4) - 1)) = h2 at h2I h2E ⊢
    have h2F := h1F.tr (h2E.wk (W' := [26, 27, 30, 33, 36]) (by first | rfl | simp))
    have he2 : pw_g h2 26 4 = (pw_g h1 26 4) - 1 := by rw [← h2w]; exact pw_g_eq (c := 26) (k := 4) h1I rfl rfl (by omega) (by omega)
    have hn2 : ∀ c' k', ¬ (26 = c' ∧ 4 = k') → pw_g h2 c' k' = pw_g h1 c' k' := fun c' k' hn => by rw [← h2w]; exact pw_g_ne hn
    have e25 := hn2 26 5 (by decide)
    have e26 := hn2 26 6 (by decide)
    have e21 := hn2 30 1 (by decide)
    refine pw_ld E (pc' := 26) (st' := [.ref 42]) rfl (fun _ => rfl) ?_
    refine pw_ld E (pc' := 27) (st' := [.ref 42, .ref 42]) rfl (fun _ => rfl) ?_
    refine pw_getI h2I E (c := 26) (k := 5) (pc' := 30) rfl rfl rfl rfl rfl rfl (fun hg9a hg9b hg9c hg9d => ?_)
    refine pw_ld E (pc' := 31) (st' := [pw_i 1, pw_i (pw_g h2 26 5), .ref 42]) rfl (fun _ => rfl) ?_
    refine pw_sub E (pc' := 32) rfl rfl ?_
    refine pw_putI h2I E (c := 26) (k := 5) (pc' := 35) rfl rfl rfl rfl (by omega) (by omega) (by omega) (by omega) rfl rfl ?_
    intro h3I h3E
    generalize h3w : pw_w h2 26 5 (pw_i ((pw_g h2 26 5) - 1)) = h3 at h3I h3E ⊢
    have h3F := h2F.tr (h3E.wk (W' := [26, 27, 30, 33, 36]) (by first | rfl | simp))
    have he3 : pw_g h3 26 5 = (pw_g h2 26 5) - 1 := by rw [← h3w]; exact pw_g_eq (c := 26) (k := 5) h2I rfl rfl (by omega) (by omega)
    have hn3 : ∀ c' k', ¬ (26 = c' ∧ 5 = k') → pw_g h3 c' k' = pw_g h2 c' k' := fun c' k' hn => by rw [← h3w]; exact pw_g_ne hn
    have e34 := hn3 26 4 (by decide)
    have e36 := hn3 26 6 (by decide)
    have e31 := hn3 30 1 (by decide)
    refine pw_ld E (pc' := 36) (st' := [.ref 42]) rfl (fun _ => rfl) ?_
    refine pw_ld E (pc' := 37) (st' := [.ref 42, .ref 42]) rfl (fun _ => rfl) ?_
    refine pw_getI h3I E (c := 26) (k := 6) (pc' := 40) rfl rfl rfl rfl rfl rfl (fun hi9a hi9b hi9c hi9d => ?_)
    refine pw_ld E (pc' := 41) (st' := [pw_i 1, pw_i (pw_g h3 26 6), .ref 42]) rfl (fun _ => rfl) ?_
    refine pw_sub E (pc' := 42) rfl rfl ?_
    refine pw_putI h3I E (c := 26) (k := 6) (pc' := 45) rfl rfl rfl rfl (by omega) (by omega) (by omega) (by omega) rfl rfl ?_
    intro h4I h4E
    generalize h4w : pw_w h3 26 6 (pw_i ((pw_g h3 26 6) - 1)) = h4 at h4I h4E ⊢
    have h4F := h3F.tr (h4E.wk (W' := [26, 27, 30, 33, 36]) (by first | rfl | simp))
    have he4 : pw_g h4 26 6 = (pw_g h3 26 6) - 1 := by rw [← h4w]; exact pw_g_eq (c := 26) (k := 6) h3I rfl rfl (by omega) (by omega)
    have hn4 : ∀ c' k', ¬ (26 = c' ∧ 6 = k') → pw_g h4 c' k' = pw_g h3 c' k' := fun c' k' hn => by rw [← h4w]; exact pw_g_ne hn
    have e44 := hn4 26 4 (by decide)
    have e45 := hn4 26 5 (by decide)
    have e41 := hn4 30 1 (by decide)
    have J4 : pw_J 26 27 h4 (pw_g h4 26 5) (pw_g h4 26 6) := by
      rw [show pw_g h4 26 5 = pw_g h1 26 5 - 1 by omega, show pw_g h4 26 6 = pw_g h1 26 6 - 1 by omega]
      exact pw_Jof hJ2 (fun j => by rw [hn4 27 j (by omega), hn3 27 j (by omega), hn2 27 j (by omega)]) (by omega)
    refine pw_ld E (pc' := 46) (st' := [.ref 42]) rfl (fun _ => rfl) ?_
    refine pw_ld E (pc' := 47) (st' := [.ref 46, .ref 42]) rfl (fun _ => rfl) ?_
    obtain ⟨f2l, f2h, -⟩ := pw_obj (c := 26) h4I rfl
    refine pw_call (m' := 49) (As := [.ref 42, .ref 46]) (rest := []) (ls'' := [some (.ref 42), some (.ref 46)]) (by omega) E rfl (fun _ => pw_iV rfl rfl rfl rfl (pw_cellI f2h rfl)) (rfl : pm_ent 49 = some (2, 2, 5, 4, pmc_49)) rfl rfl (cm_49_26 (by omega) _ h4I rfl J4 (by omega)) ?_
    rintro h5 v3 ⟨h5I, h5E, ⟨h5J, h5p, h57, h56, h58⟩, rfl⟩
    refine ⟨_, rfl, ?_⟩
    show pw X d h5 54 50 [some (.ref 42), some (.ref 46)] [] _
    have h5F := h4F.tr (h5E.wk (W' := [26, 27, 30, 33, 36]) (by first | rfl | simp))
    refine pw_ld E (pc' := 51) (st' := [pw_i 0]) rfl (fun _ => rfl) ?_
    refine pw_iret E rfl ?_
    exact ⟨h5I, h5F, ⟨h5J, by omega, by omega⟩, ⟨_, rfl, by omega, by omega⟩⟩
  · intro hc3
    refine pw_ld E (pc' := 8) (st' := [pw_i 1]) rfl (fun _ => rfl) ?_
    refine pw_iret E rfl ?_
    exact ⟨I, E0, P, ⟨_, rfl, by omega, by omega⟩⟩
set_option maxHeartbeats 4000000 in
theorem cm_51_28 {X : List (Nat × List Value)} {d : Nat} {h : pm_H} (hd : 3 ≤ d) (I : pw_I h) (hR : pw_Xr X) {T : Int} (P : pw_P 28 29 h T) : pw X d h 51 0 [some (.ref 44), some (.ref 46)] [] (fun h' v => pw_I h' ∧ pw_E [28, 29, 30, 33, 36] h h' ∧ pw_P 28 29 h' T ∧ ∃ a : Int, v = .inl (some (pw_i a)) ∧ 0 ≤ a ∧ a ≤ 1) := by
  have E : pm_ent 51 = some (2, 2, 5, 0, pmc_51) := rfl
  have E0 : pw_E [28, 29, 30, 33, 36] h h := pw_E.rf _ _
  refine pw_ld E (pc' := 1) (st' := [.ref 44]) rfl (fun _ => rfl) ?_
  refine pw_getI I E (c := 28) (k := 6) (pc' := 4) rfl rfl rfl rfl rfl rfl (fun hf1a hf1b hf1c hf1d => ?_)
  refine pw_if E (pc' := 9) rfl (by decide) (by omega) (by omega) ?_ ?_
  · intro hc2
    refine pw_ld E (pc' := 10) (st' := [.ref 44]) rfl (fun _ => rfl) ?_
    refine pw_ld E (pc' := 11) (st' := [pw_i 1, .ref 44]) rfl (fun _ => rfl) ?_
    refine pw_ld E (pc' := 12) (st' := [.ref 46, pw_i 1, .ref 44]) rfl (fun _ => rfl) ?_
    obtain ⟨f1l, f1h, -⟩ := pw_obj (c := 28) I rfl
    refine pw_call (m' := 52) (As := [.ref 44, pw_i 1, .ref 46]) (rest := []) (ls'' := [some (.ref 44), some (pw_i 1), some (.ref 46)]) (by omega) E rfl (fun _ => pw_iV rfl rfl rfl rfl (pw_cellI f1h rfl)) (rfl : pm_ent 52 = some (3, 3, 5, 4, pmc_52)) rfl rfl (cm_52_28 (by omega) hR 1 (by decide) (by decide) _ I rfl P.1) ?_
    rintro h1 v3 ⟨h1I, h1E, ⟨h1J, h1t, h1p, h1k⟩, rfl⟩
    refine ⟨_, rfl, ?_⟩
    show pw X d h1 51 15 [some (.ref 44), some (.ref 46)] [] _
    have h1F := E0.tr (h1E.wk (W' := [28, 29, 30, 33, 36]) (by first | rfl | simp))
    have P1 : pw_P 28 29 h1 T := ⟨by rw [h1k 5 (by decide), h1k 6 (by decide)]; exact h1J, by rw [h1k 6 (by decide)]; exact P.2.1, by have := P.2.2; omega⟩
    refine pw_ld E (pc' := 16) (st' := [.ref 44]) rfl (fun _ => rfl) ?_
    refine pw_ld E (pc' := 17) (st' := [pw_i 0, .ref 44]) rfl (fun _ => rfl) ?_
    refine pw_putI h1I E (c := 28) (k := 7) (pc' := 20) rfl rfl rfl rfl (by decide) (by decide) (by decide) (by decide) rfl rfl ?_
    intro h2I h2E
    generalize h2w : pw_w h1 28 7 (pw_i 0) = h2 at h2I h2E ⊢
    have h2F := h1F.tr (h2E.wk (W' := [28, 29, 30, 33, 36]) (by first | rfl | simp))
    have hn2 : ∀ c' k', ¬ (28 = c' ∧ 7 = k') → pw_g h2 c' k' = pw_g h1 c' k' := fun c' k' hn => by rw [← h2w]; exact pw_g_ne hn
    refine pw_ld E (pc' := 21) (st' := [pw_i 0]) rfl (fun _ => rfl) ?_
    refine pw_iret E rfl ?_
    exact ⟨h2I, h2F, pw_Pof P1 (hn2 _ _ (by decide)) (hn2 _ _ (by decide)) (hn2 _ _ (by decide)) (fun j => hn2 _ _ (by omega)) (hn2 _ _ (by decide)), ⟨_, rfl, by omega, by omega⟩⟩
  · intro hc3
    refine pw_ld E (pc' := 8) (st' := [pw_i 1]) rfl (fun _ => rfl) ?_
    refine pw_iret E rfl ?_
    exact ⟨I, E0, P, ⟨_, rfl, by omega, by omega⟩⟩
set_option maxHeartbeats 4000000 in
theorem cm_54_28 {X : List (Nat × List Value)} {d : Nat} {h : pm_H} (hd : 3 ≤ d) (I : pw_I h) (hR : pw_Xr X) {T : Int} (P : pw_P 28 29 h T) : pw X d h 54 0 [some (.ref 44), some (.ref 46)] [] (fun h' v => pw_I h' ∧ pw_E [28, 29, 30, 33, 36] h h' ∧ pw_P 28 29 h' T ∧ ∃ a : Int, v = .inl (some (pw_i a)) ∧ 0 ≤ a ∧ a ≤ 1) := by
  have E : pm_ent 54 = some (2, 2, 5, 0, pmc_54) := rfl
  have E0 : pw_E [28, 29, 30, 33, 36] h h := pw_E.rf _ _
  have hp6 := P.2.1
  refine pw_ld E (pc' := 1) (st' := [.ref 44]) rfl (fun _ => rfl) ?_
  refine pw_getI I E (c := 28) (k := 6) (pc' := 4) rfl rfl rfl rfl rfl rfl (fun hf1a hf1b hf1c hf1d => ?_)
  refine pw_if E (pc' := 9) rfl (by decide) (by omega) (by omega) ?_ ?_
  · intro hc2
    have hc2 : pw_g h 28 6 ≠ (0 : Int) := hc2
    refine pw_ld E (pc' := 10) (st' := [.ref 44]) rfl (fun _ => rfl) ?_
    refine pw_ld E (pc' := 11) (st' := [pw_i 1, .ref 44]) rfl (fun _ => rfl) ?_
    refine pw_ld E (pc' := 12) (st' := [.ref 46, pw_i 1, .ref 44]) rfl (fun _ => rfl) ?_
    obtain ⟨f1l, f1h, -⟩ := pw_obj (c := 28) I rfl
    refine pw_call (m' := 52) (As := [.ref 44, pw_i 1, .ref 46]) (rest := []) (ls'' := [some (.ref 44), some (pw_i 1), some (.ref 46)]) (by omega) E rfl (fun _ => pw_iV rfl rfl rfl rfl (pw_cellI f1h rfl)) (rfl : pm_ent 52 = some (3, 3, 5, 4, pmc_52)) rfl rfl (cm_52_28 (by omega) hR 1 (by decide) (by decide) _ I rfl P.1) ?_
    rintro h1 v3 ⟨h1I, h1E, ⟨h1J, h1t, h1p, h1k⟩, rfl⟩
    refine ⟨_, rfl, ?_⟩
    show pw X d h1 54 15 [some (.ref 44), some (.ref 46)] [] _
    have h1F := E0.tr (h1E.wk (W' := [28, 29, 30, 33, 36]) (by first | rfl | simp))
    have k5 := h1k 5 (by decide)
    have k6 := h1k 6 (by decide)
    have P1 : pw_P 28 29 h1 T := ⟨by rw [k5, k6]; exact h1J, by rw [k6]; exact P.2.1, by have := P.2.2; omega⟩
    obtain ⟨b1, b2, b3⟩ := pw_Pb P1
    have hpos : 0 < (pw_g h1 28 4).toNat := pw_Jw.pos P1.1 (by omega)
    obtain ⟨k, hk⟩ : ∃ k : Nat, pw_g h1 28 4 = (k : Int) + 1 := ⟨(pw_g h1 28 4 - 1).toNat, by omega⟩
    have hJk := pw_Jk P1.1 hk
    have ht := pw_tr1 (c1 := 29) hk
    have h8 : 8 ≤ pw_g h1 29 k := by
      by_cases h8 : 8 ≤ pw_g h1 29 k
      · exact h8
      · have z := pw_rk1 (hJk.1 k (by omega)).1 h8
        have z : 1 ≤ pw_rk (pw_g h1 29 k) := z
        omega
    have hJ2 := hJk.pop.2.2 h8
    have hP2 := P1.2.2
    refine pw_ld E (pc' := 16) (st' := [.ref 44]) rfl (fun _ => rfl) ?_
    refine pw_ld E (pc' := 17) (st' := [.ref 44, .ref 44]) rfl (fun _ => rfl) ?_
    refine pw_getI h1I E (c := 28) (k := 4) (pc' := 20) rfl rfl rfl rfl rfl rfl (fun hf9a hf9b hf9c hf9d => ?_)
    refine pw_ld E (pc' := 21) (st' := [pw_i 1, pw_i (pw_g h1 28 4), .ref 44]) rfl (fun _ => rfl) ?_
    refine pw_sub E (pc' := 22) rfl rfl ?_
    refine pw_putI h1I E (c := 28) (k := 4) (pc' := 25) rfl rfl rfl rfl (by omega) (by omega) (by omega) (by omega) rfl rfl ?_
    intro h2I h2E
    generalize h2w : pw_w h1 28 4 (pw_i ((pw_g h1 28 4) - 1)) = h2 at h2I h2E ⊢
    have h2F := h1F.tr (h2E.wk (W' := [28, 29, 30, 33, 36]) (by first | rfl | simp))
    have he2 : pw_g h2 28 4 = (pw_g h1 28 4) - 1 := by rw [← h2w]; exact pw_g_eq (c := 28) (k := 4) h1I rfl rfl (by omega) (by omega)
    have hn2 : ∀ c' k', ¬ (28 = c' ∧ 4 = k') → pw_g h2 c' k' = pw_g h1 c' k' := fun c' k' hn => by rw [← h2w]; exact pw_g_ne hn
    have e25 := hn2 28 5 (by decide)
    have e26 := hn2 28 6 (by decide)
    have e21 := hn2 30 1 (by decide)
    refine pw_ld E (pc' := 26) (st' := [.ref 44]) rfl (fun _ => rfl) ?_
    refine pw_ld E (pc' := 27) (st' := [.ref 44, .ref 44]) rfl (fun _ => rfl) ?_
    refine pw_getI h2I E (c := 28) (k := 5) (pc' := 30) rfl rfl rfl rfl rfl rfl (fun hg9a hg9b hg9c hg9d => ?_)
    refine pw_ld E (pc' := 31) (st' := [pw_i 1, pw_i (pw_g h2 28 5), .ref 44]) rfl (fun _ => rfl) ?_
    refine pw_sub E (pc' := 32) rfl rfl ?_
    refine pw_putI h2I E (c := 28) (k := 5) (pc' := 35) rfl rfl rfl rfl (by omega) (by omega) (by omega) (by omega) rfl rfl ?_
    intro h3I h3E
    generalize h3w : pw_w h2 28 5 (pw_i ((pw_g h2 28 5) - 1)) = h3 at h3I h3E ⊢
    have h3F := h2F.tr (h3E.wk (W' := [28, 29, 30, 33, 36]) (by first | rfl | simp))
    have he3 : pw_g h3 28 5 = (pw_g h2 28 5) - 1 := by rw [← h3w]; exact pw_g_eq (c := 28) (k := 5) h2I rfl rfl (by omega) (by omega)
    have hn3 : ∀ c' k', ¬ (28 = c' ∧ 5 = k') → pw_g h3 c' k' = pw_g h2 c' k' := fun c' k' hn => by rw [← h3w]; exact pw_g_ne hn
    have e34 := hn3 28 4 (by decide)
    have e36 := hn3 28 6 (by decide)
    have e31 := hn3 30 1 (by decide)
    refine pw_ld E (pc' := 36) (st' := [.ref 44]) rfl (fun _ => rfl) ?_
    refine pw_ld E (pc' := 37) (st' := [.ref 44, .ref 44]) rfl (fun _ => rfl) ?_
    refine pw_getI h3I E (c := 28) (k := 6) (pc' := 40) rfl rfl rfl rfl rfl rfl (fun hi9a hi9b hi9c hi9d => ?_)
    refine pw_ld E (pc' := 41) (st' := [pw_i 1, pw_i (pw_g h3 28 6), .ref 44]) rfl (fun _ => rfl) ?_
    refine pw_sub E (pc' := 42) rfl rfl ?_
    refine pw_putI h3I E (c := 28) (k := 6) (pc' := 45) rfl rfl rfl rfl (by omega) (by omega) (by omega) (by omega) rfl rfl ?_
    intro h4I h4E
    generalize h4w : pw_w h3 28 6 (pw_i ((pw_g h3 28 6) - 1)) = h4 at h4I h4E ⊢
    have h4F := h3F.tr (h4E.wk (W' := [28, 29, 30, 33, 36]) (by first | rfl | simp))
    have he4 : pw_g h4 28 6 = (pw_g h3 28 6) - 1 := by rw [← h4w]; exact pw_g_eq (c := 28) (k := 6) h3I rfl rfl (by omega) (by omega)
    have hn4 : ∀ c' k', ¬ (28 = c' ∧ 6 = k') → pw_g h4 c' k' = pw_g h3 c' k' := fun c' k' hn => by rw [← h4w]; exact pw_g_ne hn
    have e44 := hn4 28 4 (by decide)
    have e45 := hn4 28 5 (by decide)
    have e41 := hn4 30 1 (by decide)
    have J4 : pw_J 28 29 h4 (pw_g h4 28 5) (pw_g h4 28 6) := by
      rw [show pw_g h4 28 5 = pw_g h1 28 5 - 1 by omega, show pw_g h4 28 6 = pw_g h1 28 6 - 1 by omega]
      exact pw_Jof hJ2 (fun j => by rw [hn4 29 j (by omega), hn3 29 j (by omega), hn2 29 j (by omega)]) (by omega)
    refine pw_ld E (pc' := 46) (st' := [.ref 44]) rfl (fun _ => rfl) ?_
    refine pw_ld E (pc' := 47) (st' := [.ref 46, .ref 44]) rfl (fun _ => rfl) ?_
    obtain ⟨f2l, f2h, -⟩ := pw_obj (c := 28) h4I rfl
    refine pw_call (m' := 49) (As := [.ref 44, .ref 46]) (rest := []) (ls'' := [some (.ref 44), some (.ref 46)]) (by omega) E rfl (fun _ => pw_iV rfl rfl rfl rfl (pw_cellI f2h rfl)) (rfl : pm_ent 49 = some (2, 2, 5, 4, pmc_49)) rfl rfl (cm_49_28 (by omega) _ h4I rfl J4 (by omega)) ?_
    rintro h5 v3 ⟨h5I, h5E, ⟨h5J, h5p, h57, h56, h58⟩, rfl⟩
    refine ⟨_, rfl, ?_⟩
    show pw X d h5 54 50 [some (.ref 44), some (.ref 46)] [] _
    have h5F := h4F.tr (h5E.wk (W' := [28, 29, 30, 33, 36]) (by first | rfl | simp))
    refine pw_ld E (pc' := 51) (st' := [pw_i 0]) rfl (fun _ => rfl) ?_
    refine pw_iret E rfl ?_
    exact ⟨h5I, h5F, ⟨h5J, by omega, by omega⟩, ⟨_, rfl, by omega, by omega⟩⟩
  · intro hc3
    refine pw_ld E (pc' := 8) (st' := [pw_i 1]) rfl (fun _ => rfl) ?_
    refine pw_iret E rfl ?_
    exact ⟨I, E0, P, ⟨_, rfl, by omega, by omega⟩⟩
