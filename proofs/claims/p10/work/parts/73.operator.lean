/-! the Readers: an operator (printed by wip/tool/reader4.py) -/
set_option maxHeartbeats 4000000 in
theorem cm_50_26 {X : List (Nat × List Value)} {d : Nat} {h : pm_H} (hd : 4 ≤ d) (I : pw_I h) (hX : pw_Xk X) (hR : pw_Xr X) {T : Int} (P : pw_P 26 27 h T) : pw X d h 50 0 [some (.ref 42), some (.ref 40), some (.ref 46), none, none] [] (fun h' v => pw_I h' ∧ pw_E [26, 27, 30, 33, 36] h h' ∧ pw_P 26 27 h' (T + 1) ∧ ∃ a : Int, v = .inl (some (pw_i a)) ∧ 0 ≤ a ∧ a ≤ 1 ∧ (pw_g h 24 4 ≠ 4 ∨ a = 1)) := by
  have E : pm_ent 50 = some (3, 5, 5, 0, pmc_50) := rfl
  have E0 : pw_E [26, 27, 30, 33, 36] h h := pw_E.rf _ _
  have K71 : ∀ (h0 : pm_H) (x : Int), pw_I h0 → pw_E [26, 27, 30, 33, 36] h h0 → pw_P 26 27 h0 T → 1 ≤ x → x ≤ 7 → pw_g h 24 4 ≠ 4 → pw X d h0 50 71 [some (.ref 42), some (.ref 40), some (.ref 46), some (pw_i x), some (pw_i (pw_rk x))] [] (fun h' v => pw_I h' ∧ pw_E [26, 27, 30, 33, 36] h h' ∧ pw_P 26 27 h' (T + 1) ∧ ∃ a : Int, v = .inl (some (pw_i a)) ∧ 0 ≤ a ∧ a ≤ 1 ∧ (pw_g h 24 4 ≠ 4 ∨ a = 1)) := by
    intro h0 x I0 F0 P0 x1 x7 hk4
    have r1 := pw_rk1 x1 (by omega)
    have r4 := (pw_rk_le x).2
    refine pw_ld E (pc' := 72) (st' := [.ref 42]) rfl (fun _ => rfl) ?_
    refine pw_ld E (pc' := 74) (st' := [pw_i (pw_rk x), .ref 42]) rfl (fun _ => rfl) ?_
    refine pw_ld E (pc' := 75) (st' := [.ref 46, pw_i (pw_rk x), .ref 42]) rfl (fun _ => rfl) ?_
    obtain ⟨f1l, f1h, -⟩ := pw_obj (c := 26) I0 rfl
    refine pw_call (m' := 52) (As := [.ref 42, pw_i (pw_rk x), .ref 46]) (rest := []) (ls'' := [some (.ref 42), some (pw_i (pw_rk x)), some (.ref 46)]) (by omega) E rfl (fun _ => pw_iV rfl rfl rfl rfl (pw_cellI f1h rfl)) (rfl : pm_ent 52 = some (3, 3, 5, 4, pmc_52)) rfl rfl (cm_52_26 (by omega) hR (pw_rk x) r1 r4 _ I0 rfl P0.1) ?_
    rintro h1 v3 ⟨h1I, h1E, ⟨h1J, h1t, h1p, h1k⟩, rfl⟩
    refine ⟨_, rfl, ?_⟩
    show pw X d h1 50 78 [some (.ref 42), some (.ref 40), some (.ref 46), some (pw_i x), some (pw_i (pw_rk x))] [] _
    have h1F := F0.tr (h1E.wk (W' := [26, 27, 30, 33, 36]) (by first | rfl | simp))
    refine pw_ld E (pc' := 79) (st' := [.ref 42]) rfl (fun _ => rfl) ?_
    refine pw_ld E (pc' := 80) (st' := [pw_i x, .ref 42]) rfl (fun _ => rfl) ?_
    obtain ⟨f2l, f2h, -⟩ := pw_obj (c := 26) h1I rfl
    refine pw_call (m' := 48) (As := [.ref 42, pw_i x]) (rest := []) (ls'' := [some (.ref 42), some (pw_i x)]) (by omega) E rfl (fun _ => pw_iV rfl rfl rfl rfl (pw_cellI f2h rfl)) (rfl : pm_ent 48 = some (2, 2, 5, 4, pmc_48)) rfl rfl (cm_48_26 (by omega) h1I x x1 (by omega) h1J (Or.inr h1t) (fun h8 => by omega)) ?_
    rintro h2 v4 ⟨h2I, h2E, ⟨h2J, h2p, h2k⟩, rfl⟩
    refine ⟨_, rfl, ?_⟩
    show pw X d h2 50 83 [some (.ref 42), some (.ref 40), some (.ref 46), some (pw_i x), some (pw_i (pw_rk x))] [] _
    have h2F := h1F.tr (h2E.wk (W' := [26, 27, 30, 33, 36]) (by first | rfl | simp))
    rw [if_neg (by omega), if_neg (by omega)] at h2J
    have q5 : pw_g h2 26 5 = pw_g h0 26 5 := (h2k 5 (by decide)).trans (h1k 5 (by decide))
    have q6 : pw_g h2 26 6 = pw_g h0 26 6 := (h2k 6 (by decide)).trans (h1k 6 (by decide))
    have q1 : pw_g h2 30 1 = pw_g h1 30 1 := pw_Eg (c := 30) h1I h2E rfl rfl 1
    have P2 : pw_P 26 27 h2 (T + 1) := by
      obtain ⟨p1, p2, p3⟩ := P0
      refine ⟨?_, by omega, by omega⟩
      rw [q5, q6]
      simpa using h2J
    refine pw_ld E (pc' := 84) (st' := [.ref 42]) rfl (fun _ => rfl) ?_
    refine pw_ld E (pc' := 85) (st' := [pw_i 2, .ref 42]) rfl (fun _ => rfl) ?_
    refine pw_putI h2I E (c := 26) (k := 7) (pc' := 88) rfl rfl rfl rfl (by decide) (by decide) (by decide) (by decide) rfl rfl ?_
    intro h3I h3E
    generalize h3w : pw_w h2 26 7 (pw_i 2) = h3 at h3I h3E ⊢
    have h3F := h2F.tr (h3E.wk (W' := [26, 27, 30, 33, 36]) (by first | rfl | simp))
    have hn3 : ∀ c' k', ¬ (26 = c' ∧ 7 = k') → pw_g h3 c' k' = pw_g h2 c' k' := fun c' k' hn => by rw [← h3w]; exact pw_g_ne hn
    refine pw_ld E (pc' := 89) (st' := [pw_i 0]) rfl (fun _ => rfl) ?_
    refine pw_iret E rfl ?_
    exact ⟨h3I, h3F, pw_Pof P2 (hn3 _ _ (by decide)) (hn3 _ _ (by decide)) (hn3 _ _ (by decide)) (fun j => hn3 _ _ (by omega)) (hn3 _ _ (by decide)), ⟨_, rfl, by omega, by omega, Or.inl hk4⟩⟩
  refine pw_ld E (pc' := 1) (st' := [.ref 40]) rfl (fun _ => rfl) ?_
  refine pw_bip E (pc' := 3) rfl rfl (by decide) ?_
  obtain ⟨g59l, g59h, -⟩ := pw_obj (c := 24) I rfl
  refine pw_call (m' := 109) (As := [.ref 40, pw_i 59]) (rest := []) (ls'' := [some (.ref 40), some (pw_i 59)]) (by omega) E rfl (fun _ => pw_iV rfl rfl rfl rfl (pw_cellI g59h rfl)) (rfl : pm_ent 109 = some (2, 2, 9, 1, pmc_109)) rfl rfl (cm_109_24 (by omega) I 59 (by decide) (by decide)) ?_
  rintro u59 w59 ⟨rfl, s1, rfl, hs1a, hs1b, hs1r⟩
  refine ⟨_, rfl, ?_⟩
  show pw X d h 50 6 [some (.ref 42), some (.ref 40), some (.ref 46), none, none] [pw_i s1] _
  have hs1r : pw_g h 24 4 = 3 ∨ s1 = 0 := hs1r
  refine pw_if E (pc' := 15) rfl (by decide) (by omega) (by omega) ?_ ?_
  · intro hc1
    have hc1 : s1 = (0 : Int) := hc1
    refine pw_ld E (pc' := 16) (st' := [.ref 40]) rfl (fun _ => rfl) ?_
    refine pw_bip E (pc' := 18) rfl rfl (by decide) ?_
    obtain ⟨g41l, g41h, -⟩ := pw_obj (c := 24) I rfl
    refine pw_call (m' := 109) (As := [.ref 40, pw_i 41]) (rest := []) (ls'' := [some (.ref 40), some (pw_i 41)]) (by omega) E rfl (fun _ => pw_iV rfl rfl rfl rfl (pw_cellI g41h rfl)) (rfl : pm_ent 109 = some (2, 2, 9, 1, pmc_109)) rfl rfl (cm_109_24 (by omega) I 41 (by decide) (by decide)) ?_
    rintro u41 w41 ⟨rfl, s2, rfl, hs2a, hs2b, hs2r⟩
    refine ⟨_, rfl, ?_⟩
    show pw X d h 50 21 [some (.ref 42), some (.ref 40), some (.ref 46), none, none] [pw_i s2] _
    have hs2r : pw_g h 24 4 = 3 ∨ s2 = 0 := hs2r
    refine pw_if E (pc' := 30) rfl (by decide) (by omega) (by omega) ?_ ?_
    · intro hc2
      have hc2 : s2 = (0 : Int) := hc2
      refine pw_ld E (pc' := 31) (st' := [.ref 40]) rfl (fun _ => rfl) ?_
      refine pw_call (m' := 55) (As := [.ref 40]) (rest := []) (ls'' := [some (.ref 40), none]) (by omega) E rfl (fun _ => pw_iS rfl rfl rfl) (rfl : pm_ent 55 = some (1, 2, 5, 0, pmc_55)) rfl rfl (cm_55_24 (by omega) I hX) ?_
      rintro u3 w3 ⟨rfl, x, rfl, hxa, hxb, hxr, hxe⟩
      refine ⟨_, rfl, ?_⟩
      show pw X d h 50 34 [some (.ref 42), some (.ref 40), some (.ref 46), none, none] [pw_i x] _
      refine pw_istn E (pc' := 35) (ls' := [some (.ref 42), some (.ref 40), some (.ref 46), some (pw_i x), none]) rfl rfl rfl rfl ?_
      refine pw_ld E (pc' := 36) (st' := [pw_i x]) rfl (fun _ => rfl) ?_
      refine pw_ld E (pc' := 37) (st' := [pw_i (-1), pw_i x]) rfl (fun _ => rfl) ?_
      refine pw_if2 E (pc' := 42) rfl (by decide) (by omega) (by omega) (by decide) (by decide) ?_ ?_
      · intro hc3
        have hc3 : x ≠ (-1 : Int) := hc3
        refine pw_ld E (pc' := 45) (st' := [.ref 3]) rfl (fun _ => rfl) ?_
        refine pw_ld E (pc' := 46) (st' := [pw_i x, .ref 3]) rfl (fun _ => rfl) ?_
        refine pw_xaldR E (pc' := 47) rfl hR (by omega) (by omega) rfl ?_
        refine pw_ist E (pc' := 49) (ls' := [some (.ref 42), some (.ref 40), some (.ref 46), some (pw_i x), some (pw_i (pw_rk x))]) rfl rfl rfl rfl ?_
        have r1 := pw_rk1 (x := x) (by omega) (by omega)
        have r4 := (pw_rk_le x).2
        refine pw_ld E (pc' := 51) (st' := [pw_i (pw_rk x)]) rfl (fun _ => rfl) ?_
        refine pw_ld E (pc' := 52) (st' := [pw_i 2, pw_i (pw_rk x)]) rfl (fun _ => rfl) ?_
        refine pw_if2 E (pc' := 71) rfl (by decide) (by omega) (by omega) (by decide) (by decide) ?_ ?_
        · intro _
          exact K71 h x I E0 P (by omega) (by omega) (by omega)
        · intro _
          refine pw_ld E (pc' := 56) (st' := [.ref 42]) rfl (fun _ => rfl) ?_
          refine pw_ld E (pc' := 57) (st' := [pw_i 3, .ref 42]) rfl (fun _ => rfl) ?_
          refine pw_ld E (pc' := 58) (st' := [.ref 46, pw_i 3, .ref 42]) rfl (fun _ => rfl) ?_
          obtain ⟨f1l, f1h, -⟩ := pw_obj (c := 26) I rfl
          refine pw_call (m' := 52) (As := [.ref 42, pw_i 3, .ref 46]) (rest := []) (ls'' := [some (.ref 42), some (pw_i 3), some (.ref 46)]) (by omega) E rfl (fun _ => pw_iV rfl rfl rfl rfl (pw_cellI f1h rfl)) (rfl : pm_ent 52 = some (3, 3, 5, 4, pmc_52)) rfl rfl (cm_52_26 (by omega) hR 3 (by decide) (by decide) _ I rfl P.1) ?_
          rintro h1 v3 ⟨h1I, h1E, ⟨h1J, h1t, h1p, h1k⟩, rfl⟩
          refine ⟨_, rfl, ?_⟩
          show pw X d h1 50 61 [some (.ref 42), some (.ref 40), some (.ref 46), some (pw_i x), some (pw_i (pw_rk x))] [] _
          have h1F := E0.tr (h1E.wk (W' := [26, 27, 30, 33, 36]) (by first | rfl | simp))
          have P1 : pw_P 26 27 h1 T := ⟨by rw [h1k 5 (by decide), h1k 6 (by decide)]; exact h1J, by rw [h1k 6 (by decide)]; exact P.2.1, by have := P.2.2; omega⟩
          refine pw_ld E (pc' := 62) (st' := [.ref 42]) rfl (fun _ => rfl) ?_
          obtain ⟨f2l, f2h, -⟩ := pw_obj (c := 26) h1I rfl
          refine pw_call (m' := 53) (As := [.ref 42]) (rest := []) (ls'' := [some (.ref 42)]) (by omega) E rfl (fun _ => pw_iV rfl rfl rfl rfl (pw_cellI f2h rfl)) (rfl : pm_ent 53 = some (1, 1, 5, 0, pmc_53)) rfl rfl (cm_53_26 (by omega) h1I hR) ?_
          rintro u4 w4 ⟨rfl, rfl⟩
          refine ⟨_, rfl, ?_⟩
          show pw X d h1 50 65 [some (.ref 42), some (.ref 40), some (.ref 46), some (pw_i x), some (pw_i (pw_rk x))] [pw_i (pw_tr 26 27 h1)] _
          have ht : 0 ≤ pw_tr 26 27 h1 ∧ pw_tr 26 27 h1 ≤ 4 := by
            unfold pw_tr
            split
            · omega
            · exact pw_rk_le _
          refine pw_ld E (pc' := 66) (st' := [pw_i 2, pw_i (pw_tr 26 27 h1)]) rfl (fun _ => rfl) ?_
          refine pw_if2 E (pc' := 71) rfl (by decide) (by omega) (by omega) (by decide) (by decide) ?_ ?_
          · intro _
            exact K71 h1 x h1I h1F P1 (by omega) (by omega) (by omega)
          · intro _
            refine pw_ld E (pc' := 70) (st' := [pw_i 1]) rfl (fun _ => rfl) ?_
            refine pw_iret E rfl ?_
            exact ⟨h1I, h1F, P1.wk (by omega), ⟨_, rfl, by omega, by omega, Or.inr rfl⟩⟩
      · intro _
        refine pw_ld E (pc' := 41) (st' := [pw_i 1]) rfl (fun _ => rfl) ?_
        refine pw_iret E rfl ?_
        exact ⟨I, E0, P.wk (by omega), ⟨_, rfl, by omega, by omega, Or.inr rfl⟩⟩
    · intro hc2
      have hc2 : ¬ (s2 = (0 : Int)) := hc2
      refine pw_ld E (pc' := 25) (st' := [.ref 42]) rfl (fun _ => rfl) ?_
      refine pw_ld E (pc' := 26) (st' := [.ref 46, .ref 42]) rfl (fun _ => rfl) ?_
      obtain ⟨k54l, k54h, -⟩ := pw_obj (c := 26) I rfl
      refine pw_call (m' := 54) (As := [.ref 42, .ref 46]) (rest := []) (ls'' := [some (.ref 42), some (.ref 46)]) (by omega) E rfl (fun _ => pw_iV rfl rfl rfl rfl (pw_cellI k54h rfl)) (rfl : pm_ent 54 = some (2, 2, 5, 0, pmc_54)) rfl rfl (cm_54_26 (by omega) I hR P) ?_
      rintro h1 v1 ⟨h1I, h1E, h1P, y, rfl, hya, hyb⟩
      refine ⟨_, rfl, ?_⟩
      show pw X d h1 50 29 [some (.ref 42), some (.ref 40), some (.ref 46), none, none] [pw_i y] _
      refine pw_iret E rfl ?_
      exact ⟨h1I, h1E, h1P.wk (by omega), ⟨_, rfl, by omega, by omega, Or.inl (by omega)⟩⟩
  · intro hc1
    have hc1 : ¬ (s1 = (0 : Int)) := hc1
    refine pw_ld E (pc' := 10) (st' := [.ref 42]) rfl (fun _ => rfl) ?_
    refine pw_ld E (pc' := 11) (st' := [.ref 46, .ref 42]) rfl (fun _ => rfl) ?_
    obtain ⟨k51l, k51h, -⟩ := pw_obj (c := 26) I rfl
    refine pw_call (m' := 51) (As := [.ref 42, .ref 46]) (rest := []) (ls'' := [some (.ref 42), some (.ref 46)]) (by omega) E rfl (fun _ => pw_iV rfl rfl rfl rfl (pw_cellI k51h rfl)) (rfl : pm_ent 51 = some (2, 2, 5, 0, pmc_51)) rfl rfl (cm_51_26 (by omega) I hR P) ?_
    rintro h1 v1 ⟨h1I, h1E, h1P, y, rfl, hya, hyb⟩
    refine ⟨_, rfl, ?_⟩
    show pw X d h1 50 14 [some (.ref 42), some (.ref 40), some (.ref 46), none, none] [pw_i y] _
    refine pw_iret E rfl ?_
    exact ⟨h1I, h1E, h1P.wk (by omega), ⟨_, rfl, by omega, by omega, Or.inl (by omega)⟩⟩
set_option maxHeartbeats 4000000 in
theorem cm_50_28 {X : List (Nat × List Value)} {d : Nat} {h : pm_H} (hd : 4 ≤ d) (I : pw_I h) (hX : pw_Xk X) (hR : pw_Xr X) {T : Int} (P : pw_P 28 29 h T) : pw X d h 50 0 [some (.ref 44), some (.ref 40), some (.ref 46), none, none] [] (fun h' v => pw_I h' ∧ pw_E [28, 29, 30, 33, 36] h h' ∧ pw_P 28 29 h' (T + 1) ∧ ∃ a : Int, v = .inl (some (pw_i a)) ∧ 0 ≤ a ∧ a ≤ 1 ∧ (pw_g h 24 4 ≠ 4 ∨ a = 1)) := by
  have E : pm_ent 50 = some (3, 5, 5, 0, pmc_50) := rfl
  have E0 : pw_E [28, 29, 30, 33, 36] h h := pw_E.rf _ _
  have K71 : ∀ (h0 : pm_H) (x : Int), pw_I h0 → pw_E [28, 29, 30, 33, 36] h h0 → pw_P 28 29 h0 T → 1 ≤ x → x ≤ 7 → pw_g h 24 4 ≠ 4 → pw X d h0 50 71 [some (.ref 44), some (.ref 40), some (.ref 46), some (pw_i x), some (pw_i (pw_rk x))] [] (fun h' v => pw_I h' ∧ pw_E [28, 29, 30, 33, 36] h h' ∧ pw_P 28 29 h' (T + 1) ∧ ∃ a : Int, v = .inl (some (pw_i a)) ∧ 0 ≤ a ∧ a ≤ 1 ∧ (pw_g h 24 4 ≠ 4 ∨ a = 1)) := by
    intro h0 x I0 F0 P0 x1 x7 hk4
    have r1 := pw_rk1 x1 (by omega)
    have r4 := (pw_rk_le x).2
    refine pw_ld E (pc' := 72) (st' := [.ref 44]) rfl (fun _ => rfl) ?_
    refine pw_ld E (pc' := 74) (st' := [pw_i (pw_rk x), .ref 44]) rfl (fun _ => rfl) ?_
    refine pw_ld E (pc' := 75) (st' := [.ref 46, pw_i (pw_rk x), .ref 44]) rfl (fun _ => rfl) ?_
    obtain ⟨f1l, f1h, -⟩ := pw_obj (c := 28) I0 rfl
    refine pw_call (m' := 52) (As := [.ref 44, pw_i (pw_rk x), .ref 46]) (rest := []) (ls'' := [some (.ref 44), some (pw_i (pw_rk x)), some (.ref 46)]) (by omega) E rfl (fun _ => pw_iV rfl rfl rfl rfl (pw_cellI f1h rfl)) (rfl : pm_ent 52 = some (3, 3, 5, 4, pmc_52)) rfl rfl (cm_52_28 (by omega) hR (pw_rk x) r1 r4 _ I0 rfl P0.1) ?_
    rintro h1 v3 ⟨h1I, h1E, ⟨h1J, h1t, h1p, h1k⟩, rfl⟩
    refine ⟨_, rfl, ?_⟩
    show pw X d h1 50 78 [some (.ref 44), some (.ref 40), some (.ref 46), some (pw_i x), some (pw_i (pw_rk x))] [] _
    have h1F := F0.tr (h1E.wk (W' := [28, 29, 30, 33, 36]) (by first | rfl | simp))
    refine pw_ld E (pc' := 79) (st' := [.ref 44]) rfl (fun _ => rfl) ?_
    refine pw_ld E (pc' := 80) (st' := [pw_i x, .ref 44]) rfl (fun _ => rfl) ?_
    obtain ⟨f2l, f2h, -⟩ := pw_obj (c := 28) h1I rfl
    refine pw_call (m' := 48) (As := [.ref 44, pw_i x]) (rest := []) (ls'' := [some (.ref 44), some (pw_i x)]) (by omega) E rfl (fun _ => pw_iV rfl rfl rfl rfl (pw_cellI f2h rfl)) (rfl : pm_ent 48 = some (2, 2, 5, 4, pmc_48)) rfl rfl (cm_48_28 (by omega) h1I x x1 (by omega) h1J (Or.inr h1t) (fun h8 => by omega)) ?_
    rintro h2 v4 ⟨h2I, h2E, ⟨h2J, h2p, h2k⟩, rfl⟩
    refine ⟨_, rfl, ?_⟩
    show pw X d h2 50 83 [some (.ref 44), some (.ref 40), some (.ref 46), some (pw_i x), some (pw_i (pw_rk x))] [] _
    have h2F := h1F.tr (h2E.wk (W' := [28, 29, 30, 33, 36]) (by first | rfl | simp))
    rw [if_neg (by omega), if_neg (by omega)] at h2J
    have q5 : pw_g h2 28 5 = pw_g h0 28 5 := (h2k 5 (by decide)).trans (h1k 5 (by decide))
    have q6 : pw_g h2 28 6 = pw_g h0 28 6 := (h2k 6 (by decide)).trans (h1k 6 (by decide))
    have q1 : pw_g h2 30 1 = pw_g h1 30 1 := pw_Eg (c := 30) h1I h2E rfl rfl 1
    have P2 : pw_P 28 29 h2 (T + 1) := by
      obtain ⟨p1, p2, p3⟩ := P0
      refine ⟨?_, by omega, by omega⟩
      rw [q5, q6]
      simpa using h2J
    refine pw_ld E (pc' := 84) (st' := [.ref 44]) rfl (fun _ => rfl) ?_
    refine pw_ld E (pc' := 85) (st' := [pw_i 2, .ref 44]) rfl (fun _ => rfl) ?_
    refine pw_putI h2I E (c := 28) (k := 7) (pc' := 88) rfl rfl rfl rfl (by decide) (by decide) (by decide) (by decide) rfl rfl ?_
    intro h3I h3E
    generalize h3w : pw_w h2 28 7 (pw_i 2) = h3 at h3I h3E ⊢
    have h3F := h2F.tr (h3E.wk (W' := [28, 29, 30, 33, 36]) (by first | rfl | simp))
    have hn3 : ∀ c' k', ¬ (28 = c' ∧ 7 = k') → pw_g h3 c' k' = pw_g h2 c' k' := fun c' k' hn => by rw [← h3w]; exact pw_g_ne hn
    refine pw_ld E (pc' := 89) (st' := [pw_i 0]) rfl (fun _ => rfl) ?_
    refine pw_iret E rfl ?_
    exact ⟨h3I, h3F, pw_Pof P2 (hn3 _ _ (by decide)) (hn3 _ _ (by decide)) (hn3 _ _ (by decide)) (fun j => hn3 _ _ (by omega)) (hn3 _ _ (by decide)), ⟨_, rfl, by omega, by omega, Or.inl hk4⟩⟩
  refine pw_ld E (pc' := 1) (st' := [.ref 40]) rfl (fun _ => rfl) ?_
  refine pw_bip E (pc' := 3) rfl rfl (by decide) ?_
  obtain ⟨g59l, g59h, -⟩ := pw_obj (c := 24) I rfl
  refine pw_call (m' := 109) (As := [.ref 40, pw_i 59]) (rest := []) (ls'' := [some (.ref 40), some (pw_i 59)]) (by omega) E rfl (fun _ => pw_iV rfl rfl rfl rfl (pw_cellI g59h rfl)) (rfl : pm_ent 109 = some (2, 2, 9, 1, pmc_109)) rfl rfl (cm_109_24 (by omega) I 59 (by decide) (by decide)) ?_
  rintro u59 w59 ⟨rfl, s1, rfl, hs1a, hs1b, hs1r⟩
  refine ⟨_, rfl, ?_⟩
  show pw X d h 50 6 [some (.ref 44), some (.ref 40), some (.ref 46), none, none] [pw_i s1] _
  have hs1r : pw_g h 24 4 = 3 ∨ s1 = 0 := hs1r
  refine pw_if E (pc' := 15) rfl (by decide) (by omega) (by omega) ?_ ?_
  · intro hc1
    have hc1 : s1 = (0 : Int) := hc1
    refine pw_ld E (pc' := 16) (st' := [.ref 40]) rfl (fun _ => rfl) ?_
    refine pw_bip E (pc' := 18) rfl rfl (by decide) ?_
    obtain ⟨g41l, g41h, -⟩ := pw_obj (c := 24) I rfl
    refine pw_call (m' := 109) (As := [.ref 40, pw_i 41]) (rest := []) (ls'' := [some (.ref 40), some (pw_i 41)]) (by omega) E rfl (fun _ => pw_iV rfl rfl rfl rfl (pw_cellI g41h rfl)) (rfl : pm_ent 109 = some (2, 2, 9, 1, pmc_109)) rfl rfl (cm_109_24 (by omega) I 41 (by decide) (by decide)) ?_
    rintro u41 w41 ⟨rfl, s2, rfl, hs2a, hs2b, hs2r⟩
    refine ⟨_, rfl, ?_⟩
    show pw X d h 50 21 [some (.ref 44), some (.ref 40), some (.ref 46), none, none] [pw_i s2] _
    have hs2r : pw_g h 24 4 = 3 ∨ s2 = 0 := hs2r
    refine pw_if E (pc' := 30) rfl (by decide) (by omega) (by omega) ?_ ?_
    · intro hc2
      have hc2 : s2 = (0 : Int) := hc2
      refine pw_ld E (pc' := 31) (st' := [.ref 40]) rfl (fun _ => rfl) ?_
      refine pw_call (m' := 55) (As := [.ref 40]) (rest := []) (ls'' := [some (.ref 40), none]) (by omega) E rfl (fun _ => pw_iS rfl rfl rfl) (rfl : pm_ent 55 = some (1, 2, 5, 0, pmc_55)) rfl rfl (cm_55_24 (by omega) I hX) ?_
      rintro u3 w3 ⟨rfl, x, rfl, hxa, hxb, hxr, hxe⟩
      refine ⟨_, rfl, ?_⟩
      show pw X d h 50 34 [some (.ref 44), some (.ref 40), some (.ref 46), none, none] [pw_i x] _
      refine pw_istn E (pc' := 35) (ls' := [some (.ref 44), some (.ref 40), some (.ref 46), some (pw_i x), none]) rfl rfl rfl rfl ?_
      refine pw_ld E (pc' := 36) (st' := [pw_i x]) rfl (fun _ => rfl) ?_
      refine pw_ld E (pc' := 37) (st' := [pw_i (-1), pw_i x]) rfl (fun _ => rfl) ?_
      refine pw_if2 E (pc' := 42) rfl (by decide) (by omega) (by omega) (by decide) (by decide) ?_ ?_
      · intro hc3
        have hc3 : x ≠ (-1 : Int) := hc3
        refine pw_ld E (pc' := 45) (st' := [.ref 3]) rfl (fun _ => rfl) ?_
        refine pw_ld E (pc' := 46) (st' := [pw_i x, .ref 3]) rfl (fun _ => rfl) ?_
        refine pw_xaldR E (pc' := 47) rfl hR (by omega) (by omega) rfl ?_
        refine pw_ist E (pc' := 49) (ls' := [some (.ref 44), some (.ref 40), some (.ref 46), some (pw_i x), some (pw_i (pw_rk x))]) rfl rfl rfl rfl ?_
        have r1 := pw_rk1 (x := x) (by omega) (by omega)
        have r4 := (pw_rk_le x).2
        refine pw_ld E (pc' := 51) (st' := [pw_i (pw_rk x)]) rfl (fun _ => rfl) ?_
        refine pw_ld E (pc' := 52) (st' := [pw_i 2, pw_i (pw_rk x)]) rfl (fun _ => rfl) ?_
        refine pw_if2 E (pc' := 71) rfl (by decide) (by omega) (by omega) (by decide) (by decide) ?_ ?_
        · intro _
          exact K71 h x I E0 P (by omega) (by omega) (by omega)
        · intro _
          refine pw_ld E (pc' := 56) (st' := [.ref 44]) rfl (fun _ => rfl) ?_
          refine pw_ld E (pc' := 57) (st' := [pw_i 3, .ref 44]) rfl (fun _ => rfl) ?_
          refine pw_ld E (pc' := 58) (st' := [.ref 46, pw_i 3, .ref 44]) rfl (fun _ => rfl) ?_
          obtain ⟨f1l, f1h, -⟩ := pw_obj (c := 28) I rfl
          refine pw_call (m' := 52) (As := [.ref 44, pw_i 3, .ref 46]) (rest := []) (ls'' := [some (.ref 44), some (pw_i 3), some (.ref 46)]) (by omega) E rfl (fun _ => pw_iV rfl rfl rfl rfl (pw_cellI f1h rfl)) (rfl : pm_ent 52 = some (3, 3, 5, 4, pmc_52)) rfl rfl (cm_52_28 (by omega) hR 3 (by decide) (by decide) _ I rfl P.1) ?_
          rintro h1 v3 ⟨h1I, h1E, ⟨h1J, h1t, h1p, h1k⟩, rfl⟩
          refine ⟨_, rfl, ?_⟩
          show pw X d h1 50 61 [some (.ref 44), some (.ref 40), some (.ref 46), some (pw_i x), some (pw_i (pw_rk x))] [] _
          have h1F := E0.tr (h1E.wk (W' := [28, 29, 30, 33, 36]) (by first | rfl | simp))
          have P1 : pw_P 28 29 h1 T := ⟨by rw [h1k 5 (by decide), h1k 6 (by decide)]; exact h1J, by rw [h1k 6 (by decide)]; exact P.2.1, by have := P.2.2; omega⟩
          refine pw_ld E (pc' := 62) (st' := [.ref 44]) rfl (fun _ => rfl) ?_
          obtain ⟨f2l, f2h, -⟩ := pw_obj (c := 28) h1I rfl
          refine pw_call (m' := 53) (As := [.ref 44]) (rest := []) (ls'' := [some (.ref 44)]) (by omega) E rfl (fun _ => pw_iV rfl rfl rfl rfl (pw_cellI f2h rfl)) (rfl : pm_ent 53 = some (1, 1, 5, 0, pmc_53)) rfl rfl (cm_53_28 (by omega) h1I hR) ?_
          rintro u4 w4 ⟨rfl, rfl⟩
          refine ⟨_, rfl, ?_⟩
          show pw X d h1 50 65 [some (.ref 44), some (.ref 40), some (.ref 46), some (pw_i x), some (pw_i (pw_rk x))] [pw_i (pw_tr 28 29 h1)] _
          have ht : 0 ≤ pw_tr 28 29 h1 ∧ pw_tr 28 29 h1 ≤ 4 := by
            unfold pw_tr
            split
            · omega
            · exact pw_rk_le _
          refine pw_ld E (pc' := 66) (st' := [pw_i 2, pw_i (pw_tr 28 29 h1)]) rfl (fun _ => rfl) ?_
          refine pw_if2 E (pc' := 71) rfl (by decide) (by omega) (by omega) (by decide) (by decide) ?_ ?_
          · intro _
            exact K71 h1 x h1I h1F P1 (by omega) (by omega) (by omega)
          · intro _
            refine pw_ld E (pc' := 70) (st' := [pw_i 1]) rfl (fun _ => rfl) ?_
            refine pw_iret E rfl ?_
            exact ⟨h1I, h1F, P1.wk (by omega), ⟨_, rfl, by omega, by omega, Or.inr rfl⟩⟩
      · intro _
        refine pw_ld E (pc' := 41) (st' := [pw_i 1]) rfl (fun _ => rfl) ?_
        refine pw_iret E rfl ?_
        exact ⟨I, E0, P.wk (by omega), ⟨_, rfl, by omega, by omega, Or.inr rfl⟩⟩
    · intro hc2
      have hc2 : ¬ (s2 = (0 : Int)) := hc2
      refine pw_ld E (pc' := 25) (st' := [.ref 44]) rfl (fun _ => rfl) ?_
      refine pw_ld E (pc' := 26) (st' := [.ref 46, .ref 44]) rfl (fun _ => rfl) ?_
      obtain ⟨k54l, k54h, -⟩ := pw_obj (c := 28) I rfl
      refine pw_call (m' := 54) (As := [.ref 44, .ref 46]) (rest := []) (ls'' := [some (.ref 44), some (.ref 46)]) (by omega) E rfl (fun _ => pw_iV rfl rfl rfl rfl (pw_cellI k54h rfl)) (rfl : pm_ent 54 = some (2, 2, 5, 0, pmc_54)) rfl rfl (cm_54_28 (by omega) I hR P) ?_
      rintro h1 v1 ⟨h1I, h1E, h1P, y, rfl, hya, hyb⟩
      refine ⟨_, rfl, ?_⟩
      show pw X d h1 50 29 [some (.ref 44), some (.ref 40), some (.ref 46), none, none] [pw_i y] _
      refine pw_iret E rfl ?_
      exact ⟨h1I, h1E, h1P.wk (by omega), ⟨_, rfl, by omega, by omega, Or.inl (by omega)⟩⟩
  · intro hc1
    have hc1 : ¬ (s1 = (0 : Int)) := hc1
    refine pw_ld E (pc' := 10) (st' := [.ref 44]) rfl (fun _ => rfl) ?_
    refine pw_ld E (pc' := 11) (st' := [.ref 46, .ref 44]) rfl (fun _ => rfl) ?_
    obtain ⟨k51l, k51h, -⟩ := pw_obj (c := 28) I rfl
    refine pw_call (m' := 51) (As := [.ref 44, .ref 46]) (rest := []) (ls'' := [some (.ref 44), some (.ref 46)]) (by omega) E rfl (fun _ => pw_iV rfl rfl rfl rfl (pw_cellI k51h rfl)) (rfl : pm_ent 51 = some (2, 2, 5, 0, pmc_51)) rfl rfl (cm_51_28 (by omega) I hR P) ?_
    rintro h1 v1 ⟨h1I, h1E, h1P, y, rfl, hya, hyb⟩
    refine ⟨_, rfl, ?_⟩
    show pw X d h1 50 14 [some (.ref 44), some (.ref 40), some (.ref 46), none, none] [pw_i y] _
    refine pw_iret E rfl ?_
    exact ⟨h1I, h1E, h1P.wk (by omega), ⟨_, rfl, by omega, by omega, Or.inl (by omega)⟩⟩
