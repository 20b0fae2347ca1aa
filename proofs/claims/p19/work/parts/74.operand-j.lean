section
/-! the Readers: an operand (printed by wip/tool/reader5.py) -/
set_option maxHeartbeats 4000000 in
theorem cm_47_26 {X : List (Nat × List Value)} {d : Nat} {h : pm_H} (hd : 3 ≤ d) (I : pw_I h) (hX : pw_Xk X) {T : Int} (P : pw_P 26 27 h T) : pw X d h 47 0 [some (.ref 42), some (.ref 40), some (.ref 46), none, none, none, none] [] (fun h' v => pw_I h' ∧ pw_E [26, 27, 30, 33, 36] h h' ∧ pw_P 26 27 h' (T + 1) ∧ ∃ a : Int, v = .inl (some (pw_i a)) ∧ 0 ≤ a ∧ a ≤ 5 ∧ (pw_g h 24 4 ≠ 4 ∨ a = 1)) := by
  have E : pm_ent 47 = some (3, 7, 5, 0, pmc_47) := rfl
  have E0 : pw_E [26, 27, 30, 33, 36] h h := pw_E.rf _ _
  obtain ⟨b1, b2, b3⟩ := pw_Pb P
  have K158 : ∀ (nt opn nb fa w : Int), -2147483648 ≤ w → w ≤ 2147483647 → pw_g h 24 4 ≠ 4 → pw X d h 47 158 [some (.ref 42), some (.ref 40), some (.ref 46), some (pw_i nt), some (pw_i opn), some (pw_i nb), some (pw_i fa)] [pw_i w, pw_i (pw_g h 26 8), .ref 46] (fun h' v => pw_I h' ∧ pw_E [26, 27, 30, 33, 36] h h' ∧ pw_P 26 27 h' (T + 1) ∧ ∃ a : Int, v = .inl (some (pw_i a)) ∧ 0 ≤ a ∧ a ≤ 5 ∧ (pw_g h 24 4 ≠ 4 ∨ a = 1)) := by
    intro nt opn nb fa w w1 w2 hk4
    have l8 := pw_gI (c := 26) (k := 8) I rfl rfl
    obtain ⟨f1l, f1h, -⟩ := pw_obj (c := 30) I rfl
    refine pw_call (m' := 71) (As := [.ref 46, pw_i (pw_g h 26 8), pw_i w]) (rest := []) (ls'' := [some (.ref 46), some (pw_i (pw_g h 26 8)), some (pw_i w)]) (Nat.le_trans (by decide) hd) E rfl (fun _ => pw_iV rfl rfl rfl rfl (pw_cellI f1h rfl)) (rfl : pm_ent 71 = some (3, 3, 7, 4, pmc_71)) rfl rfl (cm_71_30 (pw_dp hd (by decide)) I _ l8.1 l8.2.1 _ w1 w2) ?_
    rintro h1 v3 ⟨h1I, h1E, h1p, rfl⟩
    refine ⟨_, rfl, ?_⟩
    show pw X d h1 47 161 [some (.ref 42), some (.ref 40), some (.ref 46), some (pw_i nt), some (pw_i opn), some (pw_i nb), some (pw_i fa)] [] _
    have F1 := E0.tr (h1E.wk (W' := [26, 27, 30, 33, 36]) (by first | rfl | simp))
    have g1 : ∀ k, pw_g h1 26 k = pw_g h 26 k := fun k => pw_Eg (c := 26) I h1E rfl rfl k
    have w1 : ∀ j, pw_g h1 27 j = pw_g h 27 j := fun k => pw_Eg (c := 27) I h1E rfl rfl k
    have J1 : pw_J 26 27 h1 (pw_g h1 26 5) (pw_g h1 26 6) := by
      rw [g1 5, g1 6]
      exact pw_Jof (h := h) P.1 w1 (by rw [g1 4])
    have p2 := P.2.1
    have p3 := P.2.2
    have g14 := g1 4
    have g16 := g1 6
    refine pw_ld E (pc' := 162) (st' := [.ref 42]) rfl (fun _ => rfl) ?_
    refine pw_ld E (pc' := 163) (st' := [.ref 46, .ref 42]) rfl (fun _ => rfl) ?_
    obtain ⟨f2l, f2h, -⟩ := pw_obj (c := 26) h1I rfl
    refine pw_call (m' := 49) (As := [.ref 42, .ref 46]) (rest := []) (ls'' := [some (.ref 42), some (.ref 46)]) (Nat.le_trans (by decide) hd) E rfl (fun _ => pw_iV rfl rfl rfl rfl (pw_cellI f2h rfl)) (rfl : pm_ent 49 = some (2, 2, 5, 4, pmc_49)) rfl rfl (cm_49_26 (pw_dp hd (by decide)) _ h1I rfl J1 (by omega)) ?_
    rintro h2 v4 ⟨h2I, h2E, ⟨h2J, h2p, h27, h26, h28⟩, rfl⟩
    refine ⟨_, rfl, ?_⟩
    show pw X d h2 47 166 [some (.ref 42), some (.ref 40), some (.ref 46), some (pw_i nt), some (pw_i opn), some (pw_i nb), some (pw_i fa)] [] _
    have F2 := F1.tr (h2E.wk (W' := [26, 27, 30, 33, 36]) (by first | rfl | simp))
    refine pw_ld E (pc' := 167) (st' := [pw_i 0]) rfl (fun _ => rfl) ?_
    refine pw_iret E rfl ?_
    exact ⟨h2I, F2, ⟨h2J, by omega, by omega⟩, ⟨_, rfl, by omega, by omega, Or.inl hk4⟩⟩
  have K135 : ∀ (nt opn nb fa : Int), (nt = 0 ∨ (nt = 1 ∧ pw_g h 24 4 = 1)) → (opn = 0 ∨ (opn = 1 ∧ pw_g h 24 4 = 3)) → (nb = 0 ∨ (nb = 1 ∧ pw_g h 24 4 = 2)) → -1 ≤ fa → fa ≤ 60 → (pw_g h 24 4 = 1 ∨ fa = -1) → pw_g h 24 4 ≠ 4 → pw X d h 47 135 [some (.ref 42), some (.ref 40), some (.ref 46), some (pw_i nt), some (pw_i opn), some (pw_i nb), some (pw_i fa)] [] (fun h' v => pw_I h' ∧ pw_E [26, 27, 30, 33, 36] h h' ∧ pw_P 26 27 h' (T + 1) ∧ ∃ a : Int, v = .inl (some (pw_i a)) ∧ 0 ≤ a ∧ a ≤ 5 ∧ (pw_g h 24 4 ≠ 4 ∨ a = 1)) := by
    intro nt opn nb fa y1 y2 y3 y4 y5 y6 hk4
    refine pw_ld E (pc' := 136) (st' := [.ref 46]) rfl (fun _ => rfl) ?_
    refine pw_ld E (pc' := 137) (st' := [.ref 42, .ref 46]) rfl (fun _ => rfl) ?_
    refine pw_getI I E (c := 26) (k := 8) (pc' := 140) rfl rfl rfl rfl rfl rfl (fun ga1 ga2 ga3 ga4 => ?_)
    refine pw_ld E (pc' := 142) (st' := [pw_i nb, pw_i (pw_g h 26 8), .ref 46]) rfl (fun _ => rfl) ?_
    refine pw_if E (pc' := 152) rfl (by decide) (by omega) (by omega) ?_ ?_
    · intro _
      refine pw_sip E (pc' := 155) rfl rfl (by decide) ?_
      refine pw_ld E (pc' := 157) (st' := [pw_i fa, pw_i 10000, pw_i (pw_g h 26 8), .ref 46]) rfl (fun _ => rfl) ?_
      refine pw_add E (pc' := 158) rfl rfl ?_
      exact K158 nt opn nb fa _ (by omega) (by omega) hk4
    · intro _
      refine pw_ld E (pc' := 146) (st' := [.ref 40, pw_i (pw_g h 26 8), .ref 46]) rfl (fun _ => rfl) ?_
      obtain ⟨f1l, f1h, -⟩ := pw_obj (c := 24) I rfl
      refine pw_call (m' := 110) (As := [.ref 40]) (rest := [pw_i (pw_g h 26 8), .ref 46]) (ls'' := [some (.ref 40)]) (Nat.le_trans (by decide) hd) E rfl (fun _ => pw_iV rfl rfl rfl rfl (pw_cellI f1h rfl)) (rfl : pm_ent 110 = some (1, 1, 9, 0, pmc_110)) rfl rfl (cm_110 (pw_dp hd (by decide)) I) ?_
      rintro u1 w1 ⟨rfl, x, rfl, hxa, hxb⟩
      refine ⟨_, rfl, ?_⟩
      show pw X d h 47 149 [some (.ref 42), some (.ref 40), some (.ref 46), some (pw_i nt), some (pw_i opn), some (pw_i nb), some (pw_i fa)] [pw_i x, pw_i (pw_g h 26 8), .ref 46] _
      refine pw_goto E (pc' := 158) rfl (by decide) ?_
      exact K158 nt opn nb fa _ (by omega) (by omega) hk4
  have K89 : ∀ (nt opn nb fa : Int), (nt = 0 ∨ (nt = 1 ∧ pw_g h 24 4 = 1)) → (opn = 0 ∨ (opn = 1 ∧ pw_g h 24 4 = 3)) → (nb = 0 ∨ (nb = 1 ∧ pw_g h 24 4 = 2)) → -1 ≤ fa → fa ≤ 60 → (pw_g h 24 4 = 1 ∨ fa = -1) → (nt ≠ 0 ∨ opn ≠ 0) → pw_g h 26 5 ≤ 4 → pw_g h 24 4 ≠ 4 → pw X d h 47 89 [some (.ref 42), some (.ref 40), some (.ref 46), some (pw_i nt), some (pw_i opn), some (pw_i nb), some (pw_i fa)] [] (fun h' v => pw_I h' ∧ pw_E [26, 27, 30, 33, 36] h h' ∧ pw_P 26 27 h' (T + 1) ∧ ∃ a : Int, v = .inl (some (pw_i a)) ∧ 0 ≤ a ∧ a ≤ 5 ∧ (pw_g h 24 4 ≠ 4 ∨ a = 1)) := by
    intro nt opn nb fa y1 y2 y3 y4 y5 y6 y7 hd4 hk4
    have cs : (nt = 1 ∧ opn = 0) ∨ (nt = 0 ∧ opn = 1) := by omega
    rcases cs with ⟨rfl, rfl⟩ | ⟨rfl, rfl⟩
    · refine pw_ld E (pc' := 90) (st' := [.ref 42]) rfl (fun _ => rfl) ?_
      refine pw_ld E (pc' := 91) (st' := [.ref 42, .ref 42]) rfl (fun _ => rfl) ?_
      refine pw_getI I E (c := 26) (k := 5) (pc' := 94) rfl rfl rfl rfl rfl rfl (fun ga1 ga2 ga3 ga4 => ?_)
      refine pw_ld E (pc' := 95) (st' := [pw_i 1, pw_i (pw_g h 26 5), .ref 42]) rfl (fun _ => rfl) ?_
      refine pw_add E (pc' := 96) rfl rfl ?_
      refine pw_putI I E (c := 26) (k := 5) (pc' := 99) rfl rfl rfl rfl (by omega) (by omega) (by omega) (by omega) rfl rfl ?_
      intro h1I h1E
      generalize h1w : pw_w h 26 5 (pw_i (pw_g h 26 5 + 1)) = h1 at h1I h1E ⊢
      have F1 := E0.tr (h1E.wk (W' := [26, 27, 30, 33, 36]) (by first | rfl | simp))
      have nh1 : ∀ c' k', ¬ (26 = c' ∧ 5 = k') → pw_g h1 c' k' = pw_g h c' k' := fun c' k' hn => by rw [← h1w]; exact pw_g_ne hn
      have eh1 : pw_g h1 26 5 = pw_g h 26 5 + 1 := by rw [← h1w]; exact pw_g_eq (c := 26) (k := 5) I rfl rfl (by omega) (by omega)
      have m16 := nh1 26 6 (by decide)
      refine pw_ld E (pc' := 100) (st' := [.ref 42]) rfl (fun _ => rfl) ?_
      refine pw_ld E (pc' := 101) (st' := [.ref 42, .ref 42]) rfl (fun _ => rfl) ?_
      refine pw_getI h1I E (c := 26) (k := 6) (pc' := 104) rfl rfl rfl rfl rfl rfl (fun gb1 gb2 gb3 gb4 => ?_)
      refine pw_ld E (pc' := 106) (st' := [pw_i 0, pw_i (pw_g h1 26 6), .ref 42]) rfl (fun _ => rfl) ?_
      refine pw_if E (pc' := 113) rfl (by decide) (by omega) (by omega) ?_ ?_
      · intro _
        refine pw_ld E (pc' := 114) (st' := [pw_i 0, pw_i (pw_g h1 26 6), .ref 42]) rfl (fun _ => rfl) ?_
        refine pw_add E (pc' := 115) rfl rfl ?_
        refine pw_putI h1I E (c := 26) (k := 6) (pc' := 118) rfl rfl rfl rfl (by omega) (by omega) (by omega) (by omega) rfl rfl ?_
        intro h2I h2E
        generalize h2w : pw_w h1 26 6 (pw_i (pw_g h1 26 6 + 0)) = h2 at h2I h2E ⊢
        have F2 := F1.tr (h2E.wk (W' := [26, 27, 30, 33, 36]) (by first | rfl | simp))
        have nh2 : ∀ c' k', ¬ (26 = c' ∧ 6 = k') → pw_g h2 c' k' = pw_g h1 c' k' := fun c' k' hn => by rw [← h2w]; exact pw_g_ne hn
        have eh2 : pw_g h2 26 6 = pw_g h1 26 6 + 0 := by rw [← h2w]; exact pw_g_eq (c := 26) (k := 6) h1I rfl rfl (by omega) (by omega)
        have m25 := nh2 26 5 (by decide)
        have m24 := (nh2 26 4 (by decide)).trans (nh1 26 4 (by decide))
        have m21 := (nh2 30 1 (by decide)).trans (nh1 30 1 (by decide))
        have J2 : pw_J 26 27 h2 (pw_g h 26 5) (pw_g h 26 6) := pw_Jof (h := h) P.1 (fun j => (nh2 27 j (by omega)).trans (nh1 27 j (by omega))) (by rw [m24])
        refine pw_ld E (pc' := 119) (st' := [.ref 42]) rfl (fun _ => rfl) ?_
        refine pw_ld E (pc' := 120) (st' := [pw_i 1, .ref 42]) rfl (fun _ => rfl) ?_
        refine pw_if E (pc' := 128) rfl (by decide) (by omega) (by omega) ?_ ?_
        · intro hz
          change (1 : Int) = 0 at hz
          exfalso; omega
        · intro _
          refine pw_bip E (pc' := 125) rfl rfl (by decide) ?_
          refine pw_goto E (pc' := 130) rfl (by decide) ?_
          obtain ⟨f2l, f2h, -⟩ := pw_obj (c := 26) h2I rfl
          refine pw_call (m' := 48) (As := [.ref 42, pw_i 8]) (rest := []) (ls'' := [some (.ref 42), some (pw_i 8)]) (Nat.le_trans (by decide) hd) E rfl (fun _ => pw_iV rfl rfl rfl rfl (pw_cellI f2h rfl)) (rfl : pm_ent 48 = some (2, 2, 5, 4, pmc_48)) rfl rfl (cm_48_26 (pw_dp hd (by decide)) h2I 8 (by decide) (by decide) J2 (Or.inl (by decide)) (fun _ => by omega)) ?_
          rintro h3 v4 ⟨h3I, h3E, ⟨h3J, h3p, h3k⟩, rfl⟩
          refine ⟨_, rfl, ?_⟩
          show pw X d h3 47 133 [some (.ref 42), some (.ref 40), some (.ref 46), some (pw_i 1), some (pw_i 0), some (pw_i nb), some (pw_i fa)] [] _
          have F3 := F2.tr (h3E.wk (W' := [26, 27, 30, 33, 36]) (by first | rfl | simp))
          rw [if_pos (by decide), if_neg (by decide)] at h3J
          have m31 : pw_g h3 30 1 = pw_g h2 30 1 := pw_Eg (c := 30) h2I h3E rfl rfl 1
          have m35 := h3k 5 (by decide)
          have m36 := h3k 6 (by decide)
          have P3 : pw_P 26 27 h3 (T + 1) := by
            obtain ⟨p1, p2, p3⟩ := P
            refine ⟨?_, by omega, by omega⟩
            rw [show pw_g h3 26 5 = pw_g h 26 5 + 1 by omega, show pw_g h3 26 6 = pw_g h 26 6 + 0 by omega]
            exact h3J
          refine pw_ld E (pc' := 134) (st' := [pw_i 0]) rfl (fun _ => rfl) ?_
          refine pw_iret E rfl ?_
          exact ⟨h3I, F3, P3, ⟨_, rfl, by omega, by omega, Or.inl hk4⟩⟩
      · intro hz
        change ¬ ((0 : Int) = 0) at hz
        exfalso; omega
    · refine pw_ld E (pc' := 90) (st' := [.ref 42]) rfl (fun _ => rfl) ?_
      refine pw_ld E (pc' := 91) (st' := [.ref 42, .ref 42]) rfl (fun _ => rfl) ?_
      refine pw_getI I E (c := 26) (k := 5) (pc' := 94) rfl rfl rfl rfl rfl rfl (fun ga1 ga2 ga3 ga4 => ?_)
      refine pw_ld E (pc' := 95) (st' := [pw_i 1, pw_i (pw_g h 26 5), .ref 42]) rfl (fun _ => rfl) ?_
      refine pw_add E (pc' := 96) rfl rfl ?_
      refine pw_putI I E (c := 26) (k := 5) (pc' := 99) rfl rfl rfl rfl (by omega) (by omega) (by omega) (by omega) rfl rfl ?_
      intro h1I h1E
      generalize h1w : pw_w h 26 5 (pw_i (pw_g h 26 5 + 1)) = h1 at h1I h1E ⊢
      have F1 := E0.tr (h1E.wk (W' := [26, 27, 30, 33, 36]) (by first | rfl | simp))
      have nh1 : ∀ c' k', ¬ (26 = c' ∧ 5 = k') → pw_g h1 c' k' = pw_g h c' k' := fun c' k' hn => by rw [← h1w]; exact pw_g_ne hn
      have eh1 : pw_g h1 26 5 = pw_g h 26 5 + 1 := by rw [← h1w]; exact pw_g_eq (c := 26) (k := 5) I rfl rfl (by omega) (by omega)
      have m16 := nh1 26 6 (by decide)
      refine pw_ld E (pc' := 100) (st' := [.ref 42]) rfl (fun _ => rfl) ?_
      refine pw_ld E (pc' := 101) (st' := [.ref 42, .ref 42]) rfl (fun _ => rfl) ?_
      refine pw_getI h1I E (c := 26) (k := 6) (pc' := 104) rfl rfl rfl rfl rfl rfl (fun gb1 gb2 gb3 gb4 => ?_)
      refine pw_ld E (pc' := 106) (st' := [pw_i 1, pw_i (pw_g h1 26 6), .ref 42]) rfl (fun _ => rfl) ?_
      refine pw_if E (pc' := 113) rfl (by decide) (by omega) (by omega) ?_ ?_
      · intro hz
        change (1 : Int) = 0 at hz
        exfalso; omega
      · intro _
        refine pw_ld E (pc' := 110) (st' := [pw_i 1, pw_i (pw_g h1 26 6), .ref 42]) rfl (fun _ => rfl) ?_
        refine pw_goto E (pc' := 114) rfl (by decide) ?_
        refine pw_add E (pc' := 115) rfl rfl ?_
        refine pw_putI h1I E (c := 26) (k := 6) (pc' := 118) rfl rfl rfl rfl (by omega) (by omega) (by omega) (by omega) rfl rfl ?_
        intro h2I h2E
        generalize h2w : pw_w h1 26 6 (pw_i (pw_g h1 26 6 + 1)) = h2 at h2I h2E ⊢
        have F2 := F1.tr (h2E.wk (W' := [26, 27, 30, 33, 36]) (by first | rfl | simp))
        have nh2 : ∀ c' k', ¬ (26 = c' ∧ 6 = k') → pw_g h2 c' k' = pw_g h1 c' k' := fun c' k' hn => by rw [← h2w]; exact pw_g_ne hn
        have eh2 : pw_g h2 26 6 = pw_g h1 26 6 + 1 := by rw [← h2w]; exact pw_g_eq (c := 26) (k := 6) h1I rfl rfl (by omega) (by omega)
        have m25 := nh2 26 5 (by decide)
        have m24 := (nh2 26 4 (by decide)).trans (nh1 26 4 (by decide))
        have m21 := (nh2 30 1 (by decide)).trans (nh1 30 1 (by decide))
        have J2 : pw_J 26 27 h2 (pw_g h 26 5) (pw_g h 26 6) := pw_Jof (h := h) P.1 (fun j => (nh2 27 j (by omega)).trans (nh1 27 j (by omega))) (by rw [m24])
        refine pw_ld E (pc' := 119) (st' := [.ref 42]) rfl (fun _ => rfl) ?_
        refine pw_ld E (pc' := 120) (st' := [pw_i 0, .ref 42]) rfl (fun _ => rfl) ?_
        refine pw_if E (pc' := 128) rfl (by decide) (by omega) (by omega) ?_ ?_
        · intro _
          refine pw_bip E (pc' := 130) rfl rfl (by decide) ?_
          obtain ⟨f2l, f2h, -⟩ := pw_obj (c := 26) h2I rfl
          refine pw_call (m' := 48) (As := [.ref 42, pw_i 9]) (rest := []) (ls'' := [some (.ref 42), some (pw_i 9)]) (Nat.le_trans (by decide) hd) E rfl (fun _ => pw_iV rfl rfl rfl rfl (pw_cellI f2h rfl)) (rfl : pm_ent 48 = some (2, 2, 5, 4, pmc_48)) rfl rfl (cm_48_26 (pw_dp hd (by decide)) h2I 9 (by decide) (by decide) J2 (Or.inl (by decide)) (fun _ => by omega)) ?_
          rintro h3 v4 ⟨h3I, h3E, ⟨h3J, h3p, h3k⟩, rfl⟩
          refine ⟨_, rfl, ?_⟩
          show pw X d h3 47 133 [some (.ref 42), some (.ref 40), some (.ref 46), some (pw_i 0), some (pw_i 1), some (pw_i nb), some (pw_i fa)] [] _
          have F3 := F2.tr (h3E.wk (W' := [26, 27, 30, 33, 36]) (by first | rfl | simp))
          rw [if_pos (by decide), if_pos (by decide)] at h3J
          have m31 : pw_g h3 30 1 = pw_g h2 30 1 := pw_Eg (c := 30) h2I h3E rfl rfl 1
          have m35 := h3k 5 (by decide)
          have m36 := h3k 6 (by decide)
          have P3 : pw_P 26 27 h3 (T + 1) := by
            obtain ⟨p1, p2, p3⟩ := P
            refine ⟨?_, by omega, by omega⟩
            rw [show pw_g h3 26 5 = pw_g h 26 5 + 1 by omega, show pw_g h3 26 6 = pw_g h 26 6 + 1 by omega]
            exact h3J
          refine pw_ld E (pc' := 134) (st' := [pw_i 0]) rfl (fun _ => rfl) ?_
          refine pw_iret E rfl ?_
          exact ⟨h3I, F3, P3, ⟨_, rfl, by omega, by omega, Or.inl hk4⟩⟩
        · intro hz
          change ¬ ((0 : Int) = 0) at hz
          exfalso; omega
  have K70 : ∀ (nt opn nb fa : Int), (nt = 0 ∨ (nt = 1 ∧ pw_g h 24 4 = 1)) → (opn = 0 ∨ (opn = 1 ∧ pw_g h 24 4 = 3)) → (nb = 0 ∨ (nb = 1 ∧ pw_g h 24 4 = 2)) → -1 ≤ fa → fa ≤ 60 → (pw_g h 24 4 = 1 ∨ fa = -1) → pw_g h 24 4 ≠ 4 → pw X d h 47 70 [some (.ref 42), some (.ref 40), some (.ref 46), some (pw_i nt), some (pw_i opn), some (pw_i nb), some (pw_i fa)] [] (fun h' v => pw_I h' ∧ pw_E [26, 27, 30, 33, 36] h h' ∧ pw_P 26 27 h' (T + 1) ∧ ∃ a : Int, v = .inl (some (pw_i a)) ∧ 0 ≤ a ∧ a ≤ 5 ∧ (pw_g h 24 4 ≠ 4 ∨ a = 1)) := by
    intro nt opn nb fa y1 y2 y3 y4 y5 y6 hk4
    refine pw_ld E (pc' := 71) (st' := [.ref 42]) rfl (fun _ => rfl) ?_
    refine pw_getI I E (c := 26) (k := 5) (pc' := 74) rfl rfl rfl rfl rfl rfl (fun ga1 ga2 ga3 ga4 => ?_)
    refine pw_ld E (pc' := 75) (st' := [pw_i 5, pw_i (pw_g h 26 5)]) rfl (fun _ => rfl) ?_
    refine pw_if2 E (pc' := 80) rfl (by decide) (by omega) (by omega) (by decide) (by decide) ?_ ?_
    · intro hc
      change pw_g h 26 5 < 5 at hc
      refine pw_ld E (pc' := 81) (st' := [pw_i nt]) rfl (fun _ => rfl) ?_
      refine pw_if E (pc' := 89) rfl (by decide) (by omega) (by omega) ?_ ?_
      · intro hn
        change nt ≠ 0 at hn
        exact K89 nt opn nb fa y1 y2 y3 y4 y5 y6 (Or.inl hn) (by omega) hk4
      · intro _
        refine pw_ld E (pc' := 86) (st' := [pw_i opn]) rfl (fun _ => rfl) ?_
        refine pw_if E (pc' := 135) rfl (by decide) (by omega) (by omega) ?_ ?_
        · intro _
          exact K135 nt opn nb fa y1 y2 y3 y4 y5 y6 hk4
        · intro hn
          change ¬ (opn = 0) at hn
          exact K89 nt opn nb fa y1 y2 y3 y4 y5 y6 (Or.inr hn) (by omega) hk4
    · intro _
      refine pw_ld E (pc' := 79) (st' := [pw_i 5]) rfl (fun _ => rfl) ?_
      refine pw_iret E rfl ?_
      exact ⟨I, E0, P.wk (by omega), ⟨_, rfl, by omega, by omega, Or.inl hk4⟩⟩
  have K48 : ∀ (nt opn nb fa : Int), (nt = 0 ∨ (nt = 1 ∧ pw_g h 24 4 = 1)) → (opn = 0 ∨ (opn = 1 ∧ pw_g h 24 4 = 3)) → (nb = 0 ∨ (nb = 1 ∧ pw_g h 24 4 = 2)) → -1 ≤ fa → fa ≤ 60 → (pw_g h 24 4 = 1 ∨ fa = -1) → pw X d h 47 48 [some (.ref 42), some (.ref 40), some (.ref 46), some (pw_i nt), some (pw_i opn), some (pw_i nb), some (pw_i fa)] [] (fun h' v => pw_I h' ∧ pw_E [26, 27, 30, 33, 36] h h' ∧ pw_P 26 27 h' (T + 1) ∧ ∃ a : Int, v = .inl (some (pw_i a)) ∧ 0 ≤ a ∧ a ≤ 5 ∧ (pw_g h 24 4 ≠ 4 ∨ a = 1)) := by
    intro nt opn nb fa y1 y2 y3 y4 y5 y6
    refine pw_ld E (pc' := 49) (st' := [pw_i nt]) rfl (fun _ => rfl) ?_
    refine pw_if E (pc' := 70) rfl (by decide) (by omega) (by omega) ?_ ?_
    · intro z
      change nt ≠ 0 at z
      exact K70 nt opn nb fa y1 y2 y3 y4 y5 y6 (by omega)
    · intro z1
      change ¬ (nt ≠ 0) at z1
      refine pw_ld E (pc' := 54) (st' := [pw_i opn]) rfl (fun _ => rfl) ?_
      refine pw_if E (pc' := 70) rfl (by decide) (by omega) (by omega) ?_ ?_
      · intro z
        change opn ≠ 0 at z
        exact K70 nt opn nb fa y1 y2 y3 y4 y5 y6 (by omega)
      · intro z2
        change ¬ (opn ≠ 0) at z2
        refine pw_ld E (pc' := 59) (st' := [pw_i nb]) rfl (fun _ => rfl) ?_
        refine pw_if E (pc' := 70) rfl (by decide) (by omega) (by omega) ?_ ?_
        · intro z
          change nb ≠ 0 at z
          exact K70 nt opn nb fa y1 y2 y3 y4 y5 y6 (by omega)
        · intro z3
          change ¬ (nb ≠ 0) at z3
          refine pw_ld E (pc' := 64) (st' := [pw_i fa]) rfl (fun _ => rfl) ?_
          refine pw_ld E (pc' := 65) (st' := [pw_i (-1), pw_i fa]) rfl (fun _ => rfl) ?_
          refine pw_if2 E (pc' := 70) rfl (by decide) (by omega) (by omega) (by decide) (by decide) ?_ ?_
          · intro z
            change fa ≠ -1 at z
            exact K70 nt opn nb fa y1 y2 y3 y4 y5 y6 (by omega)
          · intro _
            refine pw_ld E (pc' := 69) (st' := [pw_i 1]) rfl (fun _ => rfl) ?_
            refine pw_iret E rfl ?_
            exact ⟨I, E0, P.wk (by omega), ⟨_, rfl, by omega, by omega, Or.inr rfl⟩⟩
  have K38 : ∀ (nt opn nb : Int), (nt = 0 ∨ (nt = 1 ∧ pw_g h 24 4 = 1)) → (opn = 0 ∨ (opn = 1 ∧ pw_g h 24 4 = 3)) → (nb = 0 ∨ (nb = 1 ∧ pw_g h 24 4 = 2)) → pw X d h 47 38 [some (.ref 42), some (.ref 40), some (.ref 46), some (pw_i nt), some (pw_i opn), some (pw_i nb), none] [] (fun h' v => pw_I h' ∧ pw_E [26, 27, 30, 33, 36] h h' ∧ pw_P 26 27 h' (T + 1) ∧ ∃ a : Int, v = .inl (some (pw_i a)) ∧ 0 ≤ a ∧ a ≤ 5 ∧ (pw_g h 24 4 ≠ 4 ∨ a = 1)) := by
    intro nt opn nb y1 y2 y3
    refine pw_ld E (pc' := 39) (st' := [.ref 40]) rfl (fun _ => rfl) ?_
    refine pw_ld E (pc' := 40) (st' := [.ref 42, .ref 40]) rfl (fun _ => rfl) ?_
    refine pw_getR (b := 5) I E (c := 26) (k := 1) (pc' := 43) rfl rfl rfl rfl rfl rfl rfl ?_
    obtain ⟨f1l, f1h, -⟩ := pw_obj (c := 24) I rfl
    refine pw_call (m' := 108) (As := [.ref 40, .ref 5]) (rest := []) (ls'' := [some (.ref 40), some (.ref 5), none, none, none, none, none]) (Nat.le_trans (by decide) hd) E rfl (fun _ => pw_iV rfl rfl rfl rfl (pw_cellI f1h rfl)) (rfl : pm_ent 108 = some (2, 7, 9, 0, pmc_108)) rfl rfl (cm_108_24 (pw_dp hd (by decide)) I hX 5 (by decide) (by decide)) ?_
    rintro u1 w1 ⟨rfl, x, rfl, hxa, hxb, hxr⟩
    refine ⟨_, rfl, ?_⟩
    show pw X d h 47 46 [some (.ref 42), some (.ref 40), some (.ref 46), some (pw_i nt), some (pw_i opn), some (pw_i nb), none] [pw_i x] _
    refine pw_ist E (pc' := 48) (ls' := [some (.ref 42), some (.ref 40), some (.ref 46), some (pw_i nt), some (pw_i opn), some (pw_i nb), some (pw_i x)]) rfl rfl rfl rfl ?_
    exact K48 nt opn nb x y1 y2 y3 hxa hxb hxr
  have K15 : ∀ (nt : Int), (nt = 0 ∨ (nt = 1 ∧ pw_g h 24 4 = 1)) → pw X d h 47 15 [some (.ref 42), some (.ref 40), some (.ref 46), some (pw_i nt), none, none, none] [] (fun h' v => pw_I h' ∧ pw_E [26, 27, 30, 33, 36] h h' ∧ pw_P 26 27 h' (T + 1) ∧ ∃ a : Int, v = .inl (some (pw_i a)) ∧ 0 ≤ a ∧ a ≤ 5 ∧ (pw_g h 24 4 ≠ 4 ∨ a = 1)) := by
    intro nt y1
    refine pw_ld E (pc' := 16) (st' := [.ref 40]) rfl (fun _ => rfl) ?_
    refine pw_bip E (pc' := 18) rfl rfl (by decide) ?_
    obtain ⟨f1l, f1h, -⟩ := pw_obj (c := 24) I rfl
    refine pw_call (m' := 109) (As := [.ref 40, pw_i 40]) (rest := []) (ls'' := [some (.ref 40), some (pw_i 40)]) (Nat.le_trans (by decide) hd) E rfl (fun _ => pw_iV rfl rfl rfl rfl (pw_cellI f1h rfl)) (rfl : pm_ent 109 = some (2, 2, 9, 1, pmc_109)) rfl rfl (cm_109_24 (pw_dp hd (by decide)) I 40 (by decide) (by decide)) ?_
    rintro u1 w1 ⟨rfl, x, rfl, hxa, hxb, hxr⟩
    refine ⟨_, rfl, ?_⟩
    show pw X d h 47 21 [some (.ref 42), some (.ref 40), some (.ref 46), some (pw_i nt), none, none, none] [pw_i x] _
    refine pw_ist E (pc' := 23) (ls' := [some (.ref 42), some (.ref 40), some (.ref 46), some (pw_i nt), some (pw_i x), none, none]) rfl rfl rfl rfl ?_
    refine pw_ld E (pc' := 24) (st' := [.ref 40]) rfl (fun _ => rfl) ?_
    obtain ⟨f2l, f2h, -⟩ := pw_obj (c := 24) I rfl
    refine pw_call (m' := 107) (As := [.ref 40]) (rest := []) (ls'' := [some (.ref 40)]) (Nat.le_trans (by decide) hd) E rfl (fun _ => pw_iV rfl rfl rfl rfl (pw_cellI f2h rfl)) (rfl : pm_ent 107 = some (1, 1, 9, 0, pmc_107)) rfl rfl (cm_107_24 (pw_dp hd (by decide)) I) ?_
    rintro u2 w2 ⟨rfl, y, rfl, hya, hyb, hyr⟩
    refine ⟨_, rfl, ?_⟩
    show pw X d h 47 27 [some (.ref 42), some (.ref 40), some (.ref 46), some (pw_i nt), some (pw_i x), none, none] [pw_i y] _
    refine pw_ld E (pc' := 28) (st' := [pw_i 2, pw_i y]) rfl (fun _ => rfl) ?_
    refine pw_if2 E (pc' := 35) rfl (by decide) (by omega) (by omega) (by decide) (by decide) ?_ ?_
    · intro _
      refine pw_ld E (pc' := 36) (st' := [pw_i 0]) rfl (fun _ => rfl) ?_
      refine pw_ist E (pc' := 38) (ls' := [some (.ref 42), some (.ref 40), some (.ref 46), some (pw_i nt), some (pw_i x), some (pw_i 0), none]) rfl rfl rfl rfl ?_
      exact K38 nt x 0 y1 (by omega) (by omega)
    · intro z
      change ¬ (y ≠ 2) at z
      refine pw_ld E (pc' := 32) (st' := [pw_i 1]) rfl (fun _ => rfl) ?_
      refine pw_goto E (pc' := 36) rfl (by decide) ?_
      refine pw_ist E (pc' := 38) (ls' := [some (.ref 42), some (.ref 40), some (.ref 46), some (pw_i nt), some (pw_i x), some (pw_i 1), none]) rfl rfl rfl rfl ?_
      exact K38 nt x 1 y1 (by omega) (by omega)
  refine pw_ld E (pc' := 1) (st' := [.ref 40]) rfl (fun _ => rfl) ?_
  refine pw_ld E (pc' := 3) (st' := [.ref 10, .ref 40]) rfl (fun _ => rfl) ?_
  obtain ⟨f1l, f1h, -⟩ := pw_obj (c := 24) I rfl
  refine pw_call (m' := 108) (As := [.ref 40, .ref 10]) (rest := []) (ls'' := [some (.ref 40), some (.ref 10), none, none, none, none, none]) (Nat.le_trans (by decide) hd) E rfl (fun _ => pw_iV rfl rfl rfl rfl (pw_cellI f1h rfl)) (rfl : pm_ent 108 = some (2, 7, 9, 0, pmc_108)) rfl rfl (cm_108_24 (pw_dp hd (by decide)) I hX 10 (by decide) (by decide)) ?_
  rintro u1 w1 ⟨rfl, x, rfl, hxa, hxb, hxr⟩
  refine ⟨_, rfl, ?_⟩
  show pw X d h 47 6 [some (.ref 42), some (.ref 40), some (.ref 46), none, none, none, none] [pw_i x] _
  refine pw_if E (pc' := 13) rfl (by decide) (by omega) (by omega) ?_ ?_
  · intro _
    refine pw_ld E (pc' := 14) (st' := [pw_i 0]) rfl (fun _ => rfl) ?_
    refine pw_istn E (pc' := 15) (ls' := [some (.ref 42), some (.ref 40), some (.ref 46), some (pw_i 0), none, none, none]) rfl rfl rfl rfl ?_
    exact K15 0 (by omega)
  · intro z
    change ¬ (x ≠ 0) at z
    refine pw_ld E (pc' := 10) (st' := [pw_i 1]) rfl (fun _ => rfl) ?_
    refine pw_goto E (pc' := 14) rfl (by decide) ?_
    refine pw_istn E (pc' := 15) (ls' := [some (.ref 42), some (.ref 40), some (.ref 46), some (pw_i 1), none, none, none]) rfl rfl rfl rfl ?_
    exact K15 1 (by omega)
set_option maxHeartbeats 4000000 in
theorem cm_47_28 {X : List (Nat × List Value)} {d : Nat} {h : pm_H} (hd : 3 ≤ d) (I : pw_I h) (hX : pw_Xk X) {T : Int} (P : pw_P 28 29 h T) : pw X d h 47 0 [some (.ref 44), some (.ref 40), some (.ref 46), none, none, none, none] [] (fun h' v => pw_I h' ∧ pw_E [28, 29, 30, 33, 36] h h' ∧ pw_P 28 29 h' (T + 1) ∧ ∃ a : Int, v = .inl (some (pw_i a)) ∧ 0 ≤ a ∧ a ≤ 5 ∧ (pw_g h 24 4 ≠ 4 ∨ a = 1)) := by
  have E : pm_ent 47 = some (3, 7, 5, 0, pmc_47) := rfl
  have E0 : pw_E [28, 29, 30, 33, 36] h h := pw_E.rf _ _
  obtain ⟨b1, b2, b3⟩ := pw_Pb P
  have K158 : ∀ (nt opn nb fa w : Int), -2147483648 ≤ w → w ≤ 2147483647 → pw_g h 24 4 ≠ 4 → pw X d h 47 158 [some (.ref 44), some (.ref 40), some (.ref 46), some (pw_i nt), some (pw_i opn), some (pw_i nb), some (pw_i fa)] [pw_i w, pw_i (pw_g h 28 8), .ref 46] (fun h' v => pw_I h' ∧ pw_E [28, 29, 30, 33, 36] h h' ∧ pw_P 28 29 h' (T + 1) ∧ ∃ a : Int, v = .inl (some (pw_i a)) ∧ 0 ≤ a ∧ a ≤ 5 ∧ (pw_g h 24 4 ≠ 4 ∨ a = 1)) := by
    intro nt opn nb fa w w1 w2 hk4
    have l8 := pw_gI (c := 28) (k := 8) I rfl rfl
    obtain ⟨f1l, f1h, -⟩ := pw_obj (c := 30) I rfl
    refine pw_call (m' := 71) (As := [.ref 46, pw_i (pw_g h 28 8), pw_i w]) (rest := []) (ls'' := [some (.ref 46), some (pw_i (pw_g h 28 8)), some (pw_i w)]) (Nat.le_trans (by decide) hd) E rfl (fun _ => pw_iV rfl rfl rfl rfl (pw_cellI f1h rfl)) (rfl : pm_ent 71 = some (3, 3, 7, 4, pmc_71)) rfl rfl (cm_71_30 (pw_dp hd (by decide)) I _ l8.1 l8.2.1 _ w1 w2) ?_
    rintro h1 v3 ⟨h1I, h1E, h1p, rfl⟩
    refine ⟨_, rfl, ?_⟩
    show pw X d h1 47 161 [some (.ref 44), some (.ref 40), some (.ref 46), some (pw_i nt), some (pw_i opn), some (pw_i nb), some (pw_i fa)] [] _
    have F1 := E0.tr (h1E.wk (W' := [28, 29, 30, 33, 36]) (by first | rfl | simp))
    have g1 : ∀ k, pw_g h1 28 k = pw_g h 28 k := fun k => pw_Eg (c := 28) I h1E rfl rfl k
    have w1 : ∀ j, pw_g h1 29 j = pw_g h 29 j := fun k => pw_Eg (c := 29) I h1E rfl rfl k
    have J1 : pw_J 28 29 h1 (pw_g h1 28 5) (pw_g h1 28 6) := by
      rw [g1 5, g1 6]
      exact pw_Jof (h := h) P.1 w1 (by rw [g1 4])
    have p2 := P.2.1
    have p3 := P.2.2
    have g14 := g1 4
    have g16 := g1 6
    refine pw_ld E (pc' := 162) (st' := [.ref 44]) rfl (fun _ => rfl) ?_
    refine pw_ld E (pc' := 163) (st' := [.ref 46, .ref 44]) rfl (fun _ => rfl) ?_
    obtain ⟨f2l, f2h, -⟩ := pw_obj (c := 28) h1I rfl
    refine pw_call (m' := 49) (As := [.ref 44, .ref 46]) (rest := []) (ls'' := [some (.ref 44), some (.ref 46)]) (Nat.le_trans (by decide) hd) E rfl (fun _ => pw_iV rfl rfl rfl rfl (pw_cellI f2h rfl)) (rfl : pm_ent 49 = some (2, 2, 5, 4, pmc_49)) rfl rfl (cm_49_28 (pw_dp hd (by decide)) _ h1I rfl J1 (by omega)) ?_
    rintro h2 v4 ⟨h2I, h2E, ⟨h2J, h2p, h27, h26, h28⟩, rfl⟩
    refine ⟨_, rfl, ?_⟩
    show pw X d h2 47 166 [some (.ref 44), some (.ref 40), some (.ref 46), some (pw_i nt), some (pw_i opn), some (pw_i nb), some (pw_i fa)] [] _
    have F2 := F1.tr (h2E.wk (W' := [28, 29, 30, 33, 36]) (by first | rfl | simp))
    refine pw_ld E (pc' := 167) (st' := [pw_i 0]) rfl (fun _ => rfl) ?_
    refine pw_iret E rfl ?_
    exact ⟨h2I, F2, ⟨h2J, by omega, by omega⟩, ⟨_, rfl, by omega, by omega, Or.inl hk4⟩⟩
  have K135 : ∀ (nt opn nb fa : Int), (nt = 0 ∨ (nt = 1 ∧ pw_g h 24 4 = 1)) → (opn = 0 ∨ (opn = 1 ∧ pw_g h 24 4 = 3)) → (nb = 0 ∨ (nb = 1 ∧ pw_g h 24 4 = 2)) → -1 ≤ fa → fa ≤ 60 → (pw_g h 24 4 = 1 ∨ fa = -1) → pw_g h 24 4 ≠ 4 → pw X d h 47 135 [some (.ref 44), some (.ref 40), some (.ref 46), some (pw_i nt), some (pw_i opn), some (pw_i nb), some (pw_i fa)] [] (fun h' v => pw_I h' ∧ pw_E [28, 29, 30, 33, 36] h h' ∧ pw_P 28 29 h' (T + 1) ∧ ∃ a : Int, v = .inl (some (pw_i a)) ∧ 0 ≤ a ∧ a ≤ 5 ∧ (pw_g h 24 4 ≠ 4 ∨ a = 1)) := by
    intro nt opn nb fa y1 y2 y3 y4 y5 y6 hk4
    refine pw_ld E (pc' := 136) (st' := [.ref 46]) rfl (fun _ => rfl) ?_
    refine pw_ld E (pc' := 137) (st' := [.ref 44, .ref 46]) rfl (fun _ => rfl) ?_
    refine pw_getI I E (c := 28) (k := 8) (pc' := 140) rfl rfl rfl rfl rfl rfl (fun ga1 ga2 ga3 ga4 => ?_)
    refine pw_ld E (pc' := 142) (st' := [pw_i nb, pw_i (pw_g h 28 8), .ref 46]) rfl (fun _ => rfl) ?_
    refine pw_if E (pc' := 152) rfl (by decide) (by omega) (by omega) ?_ ?_
    · intro _
      refine pw_sip E (pc' := 155) rfl rfl (by decide) ?_
      refine pw_ld E (pc' := 157) (st' := [pw_i fa, pw_i 10000, pw_i (pw_g h 28 8), .ref 46]) rfl (fun _ => rfl) ?_
      refine pw_add E (pc' := 158) rfl rfl ?_
      exact K158 nt opn nb fa _ (by omega) (by omega) hk4
    · intro _
      refine pw_ld E (pc' := 146) (st' := [.ref 40, pw_i (pw_g h 28 8), .ref 46]) rfl (fun _ => rfl) ?_
      obtain ⟨f1l, f1h, -⟩ := pw_obj (c := 24) I rfl
      refine pw_call (m' := 110) (As := [.ref 40]) (rest := [pw_i (pw_g h 28 8), .ref 46]) (ls'' := [some (.ref 40)]) (Nat.le_trans (by decide) hd) E rfl (fun _ => pw_iV rfl rfl rfl rfl (pw_cellI f1h rfl)) (rfl : pm_ent 110 = some (1, 1, 9, 0, pmc_110)) rfl rfl (cm_110 (pw_dp hd (by decide)) I) ?_
      rintro u1 w1 ⟨rfl, x, rfl, hxa, hxb⟩
      refine ⟨_, rfl, ?_⟩
      show pw X d h 47 149 [some (.ref 44), some (.ref 40), some (.ref 46), some (pw_i nt), some (pw_i opn), some (pw_i nb), some (pw_i fa)] [pw_i x, pw_i (pw_g h 28 8), .ref 46] _
      refine pw_goto E (pc' := 158) rfl (by decide) ?_
      exact K158 nt opn nb fa _ (by omega) (by omega) hk4
  have K89 : ∀ (nt opn nb fa : Int), (nt = 0 ∨ (nt = 1 ∧ pw_g h 24 4 = 1)) → (opn = 0 ∨ (opn = 1 ∧ pw_g h 24 4 = 3)) → (nb = 0 ∨ (nb = 1 ∧ pw_g h 24 4 = 2)) → -1 ≤ fa → fa ≤ 60 → (pw_g h 24 4 = 1 ∨ fa = -1) → (nt ≠ 0 ∨ opn ≠ 0) → pw_g h 28 5 ≤ 4 → pw_g h 24 4 ≠ 4 → pw X d h 47 89 [some (.ref 44), some (.ref 40), some (.ref 46), some (pw_i nt), some (pw_i opn), some (pw_i nb), some (pw_i fa)] [] (fun h' v => pw_I h' ∧ pw_E [28, 29, 30, 33, 36] h h' ∧ pw_P 28 29 h' (T + 1) ∧ ∃ a : Int, v = .inl (some (pw_i a)) ∧ 0 ≤ a ∧ a ≤ 5 ∧ (pw_g h 24 4 ≠ 4 ∨ a = 1)) := by
    intro nt opn nb fa y1 y2 y3 y4 y5 y6 y7 hd4 hk4
    have cs : (nt = 1 ∧ opn = 0) ∨ (nt = 0 ∧ opn = 1) := by omega
    rcases cs with ⟨rfl, rfl⟩ | ⟨rfl, rfl⟩
    · refine pw_ld E (pc' := 90) (st' := [.ref 44]) rfl (fun _ => rfl) ?_
      refine pw_ld E (pc' := 91) (st' := [.ref 44, .ref 44]) rfl (fun _ => rfl) ?_
      refine pw_getI I E (c := 28) (k := 5) (pc' := 94) rfl rfl rfl rfl rfl rfl (fun ga1 ga2 ga3 ga4 => ?_)
      refine pw_ld E (pc' := 95) (st' := [pw_i 1, pw_i (pw_g h 28 5), .ref 44]) rfl (fun _ => rfl) ?_
      refine pw_add E (pc' := 96) rfl rfl ?_
      refine pw_putI I E (c := 28) (k := 5) (pc' := 99) rfl rfl rfl rfl (by omega) (by omega) (by omega) (by omega) rfl rfl ?_
      intro h1I h1E
      generalize h1w : pw_w h 28 5 (pw_i (pw_g h 28 5 + 1)) = h1 at h1I h1E ⊢
      have F1 := E0.tr (h1E.wk (W' := [28, 29, 30, 33, 36]) (by first | rfl | simp))
      have nh1 : ∀ c' k', ¬ (28 = c' ∧ 5 = k') → pw_g h1 c' k' = pw_g h c' k' := fun c' k' hn => by rw [← h1w]; exact pw_g_ne hn
      have eh1 : pw_g h1 28 5 = pw_g h 28 5 + 1 := by rw [← h1w]; exact pw_g_eq (c := 28) (k := 5) I rfl rfl (by omega) (by omega)
      have m16 := nh1 28 6 (by decide)
      refine pw_ld E (pc' := 100) (st' := [.ref 44]) rfl (fun _ => rfl) ?_
      refine pw_ld E (pc' := 101) (st' := [.ref 44, .ref 44]) rfl (fun _ => rfl) ?_
      refine pw_getI h1I E (c := 28) (k := 6) (pc' := 104) rfl rfl rfl rfl rfl rfl (fun gb1 gb2 gb3 gb4 => ?_)
      refine pw_ld E (pc' := 106) (st' := [pw_i 0, pw_i (pw_g h1 28 6), .ref 44]) rfl (fun _ => rfl) ?_
      refine pw_if E (pc' := 113) rfl (by decide) (by omega) (by omega) ?_ ?_
      · intro _
        refine pw_ld E (pc' := 114) (st' := [pw_i 0, pw_i (pw_g h1 28 6), .ref 44]) rfl (fun _ => rfl) ?_
        refine pw_add E (pc' := 115) rfl rfl ?_
        refine pw_putI h1I E (c := 28) (k := 6) (pc' := 118) rfl rfl rfl rfl (by omega) (by omega) (by omega) (by omega) rfl rfl ?_
        intro h2I h2E
        generalize h2w : pw_w h1 28 6 (pw_i (pw_g h1 28 6 + 0)) = h2 at h2I h2E ⊢
        have F2 := F1.tr (h2E.wk (W' := [28, 29, 30, 33, 36]) (by first | rfl | simp))
        have nh2 : ∀ c' k', ¬ (28 = c' ∧ 6 = k') → pw_g h2 c' k' = pw_g h1 c' k' := fun c' k' hn => by rw [← h2w]; exact pw_g_ne hn
        have eh2 : pw_g h2 28 6 = pw_g h1 28 6 + 0 := by rw [← h2w]; exact pw_g_eq (c := 28) (k := 6) h1I rfl rfl (by omega) (by omega)
        have m25 := nh2 28 5 (by decide)
        have m24 := (nh2 28 4 (by decide)).trans (nh1 28 4 (by decide))
        have m21 := (nh2 30 1 (by decide)).trans (nh1 30 1 (by decide))
        have J2 : pw_J 28 29 h2 (pw_g h 28 5) (pw_g h 28 6) := pw_Jof (h := h) P.1 (fun j => (nh2 29 j (by omega)).trans (nh1 29 j (by omega))) (by rw [m24])
        refine pw_ld E (pc' := 119) (st' := [.ref 44]) rfl (fun _ => rfl) ?_
        refine pw_ld E (pc' := 120) (st' := [pw_i 1, .ref 44]) rfl (fun _ => rfl) ?_
        refine pw_if E (pc' := 128) rfl (by decide) (by omega) (by omega) ?_ ?_
        · intro hz
          change (1 : Int) = 0 at hz
          exfalso; omega
        · intro _
          refine pw_bip E (pc' := 125) rfl rfl (by decide) ?_
          refine pw_goto E (pc' := 130) rfl (by decide) ?_
          obtain ⟨f2l, f2h, -⟩ := pw_obj (c := 28) h2I rfl
          refine pw_call (m' := 48) (As := [.ref 44, pw_i 8]) (rest := []) (ls'' := [some (.ref 44), some (pw_i 8)]) (Nat.le_trans (by decide) hd) E rfl (fun _ => pw_iV rfl rfl rfl rfl (pw_cellI f2h rfl)) (rfl : pm_ent 48 = some (2, 2, 5, 4, pmc_48)) rfl rfl (cm_48_28 (pw_dp hd (by decide)) h2I 8 (by decide) (by decide) J2 (Or.inl (by decide)) (fun _ => by omega)) ?_
          rintro h3 v4 ⟨h3I, h3E, ⟨h3J, h3p, h3k⟩, rfl⟩
          refine ⟨_, rfl, ?_⟩
          show pw X d h3 47 133 [some (.ref 44), some (.ref 40), some (.ref 46), some (pw_i 1), some (pw_i 0), some (pw_i nb), some (pw_i fa)] [] _
          have F3 := F2.tr (h3E.wk (W' := [28, 29, 30, 33, 36]) (by first | rfl | simp))
          rw [if_pos (by decide), if_neg (by decide)] at h3J
          have m31 : pw_g h3 30 1 = pw_g h2 30 1 := pw_Eg (c := 30) h2I h3E rfl rfl 1
          have m35 := h3k 5 (by decide)
          have m36 := h3k 6 (by decide)
          have P3 : pw_P 28 29 h3 (T + 1) := by
            obtain ⟨p1, p2, p3⟩ := P
            refine ⟨?_, by omega, by omega⟩
            rw [show pw_g h3 28 5 = pw_g h 28 5 + 1 by omega, show pw_g h3 28 6 = pw_g h 28 6 + 0 by omega]
            exact h3J
          refine pw_ld E (pc' := 134) (st' := [pw_i 0]) rfl (fun _ => rfl) ?_
          refine pw_iret E rfl ?_
          exact ⟨h3I, F3, P3, ⟨_, rfl, by omega, by omega, Or.inl hk4⟩⟩
      · intro hz
        change ¬ ((0 : Int) = 0) at hz
        exfalso; omega
    · refine pw_ld E (pc' := 90) (st' := [.ref 44]) rfl (fun _ => rfl) ?_
      refine pw_ld E (pc' := 91) (st' := [.ref 44, .ref 44]) rfl (fun _ => rfl) ?_
      refine pw_getI I E (c := 28) (k := 5) (pc' := 94) rfl rfl rfl rfl rfl rfl (fun ga1 ga2 ga3 ga4 => ?_)
      refine pw_ld E (pc' := 95) (st' := [pw_i 1, pw_i (pw_g h 28 5), .ref 44]) rfl (fun _ => rfl) ?_
      refine pw_add E (pc' := 96) rfl rfl ?_
      refine pw_putI I E (c := 28) (k := 5) (pc' := 99) rfl rfl rfl rfl (by omega) (by omega) (by omega) (by omega) rfl rfl ?_
      intro h1I h1E
      generalize h1w : pw_w h 28 5 (pw_i (pw_g h 28 5 + 1)) = h1 at h1I h1E ⊢
      have F1 := E0.tr (h1E.wk (W' := [28, 29, 30, 33, 36]) (by first | rfl | simp))
      have nh1 : ∀ c' k', ¬ (28 = c' ∧ 5 = k') → pw_g h1 c' k' = pw_g h c' k' := fun c' k' hn => by rw [← h1w]; exact pw_g_ne hn
      have eh1 : pw_g h1 28 5 = pw_g h 28 5 + 1 := by rw [← h1w]; exact pw_g_eq (c := 28) (k := 5) I rfl rfl (by omega) (by omega)
      have m16 := nh1 28 6 (by decide)
      refine pw_ld E (pc' := 100) (st' := [.ref 44]) rfl (fun _ => rfl) ?_
      refine pw_ld E (pc' := 101) (st' := [.ref 44, .ref 44]) rfl (fun _ => rfl) ?_
      refine pw_getI h1I E (c := 28) (k := 6) (pc' := 104) rfl rfl rfl rfl rfl rfl (fun gb1 gb2 gb3 gb4 => ?_)
      refine pw_ld E (pc' := 106) (st' := [pw_i 1, pw_i (pw_g h1 28 6), .ref 44]) rfl (fun _ => rfl) ?_
      refine pw_if E (pc' := 113) rfl (by decide) (by omega) (by omega) ?_ ?_
      · intro hz
        change (1 : Int) = 0 at hz
        exfalso; omega
      · intro _
        refine pw_ld E (pc' := 110) (st' := [pw_i 1, pw_i (pw_g h1 28 6), .ref 44]) rfl (fun _ => rfl) ?_
        refine pw_goto E (pc' := 114) rfl (by decide) ?_
        refine pw_add E (pc' := 115) rfl rfl ?_
        refine pw_putI h1I E (c := 28) (k := 6) (pc' := 118) rfl rfl rfl rfl (by omega) (by omega) (by omega) (by omega) rfl rfl ?_
        intro h2I h2E
        generalize h2w : pw_w h1 28 6 (pw_i (pw_g h1 28 6 + 1)) = h2 at h2I h2E ⊢
        have F2 := F1.tr (h2E.wk (W' := [28, 29, 30, 33, 36]) (by first | rfl | simp))
        have nh2 : ∀ c' k', ¬ (28 = c' ∧ 6 = k') → pw_g h2 c' k' = pw_g h1 c' k' := fun c' k' hn => by rw [← h2w]; exact pw_g_ne hn
        have eh2 : pw_g h2 28 6 = pw_g h1 28 6 + 1 := by rw [← h2w]; exact pw_g_eq (c := 28) (k := 6) h1I rfl rfl (by omega) (by omega)
        have m25 := nh2 28 5 (by decide)
        have m24 := (nh2 28 4 (by decide)).trans (nh1 28 4 (by decide))
        have m21 := (nh2 30 1 (by decide)).trans (nh1 30 1 (by decide))
        have J2 : pw_J 28 29 h2 (pw_g h 28 5) (pw_g h 28 6) := pw_Jof (h := h) P.1 (fun j => (nh2 29 j (by omega)).trans (nh1 29 j (by omega))) (by rw [m24])
        refine pw_ld E (pc' := 119) (st' := [.ref 44]) rfl (fun _ => rfl) ?_
        refine pw_ld E (pc' := 120) (st' := [pw_i 0, .ref 44]) rfl (fun _ => rfl) ?_
        refine pw_if E (pc' := 128) rfl (by decide) (by omega) (by omega) ?_ ?_
        · intro _
          refine pw_bip E (pc' := 130) rfl rfl (by decide) ?_
          obtain ⟨f2l, f2h, -⟩ := pw_obj (c := 28) h2I rfl
          refine pw_call (m' := 48) (As := [.ref 44, pw_i 9]) (rest := []) (ls'' := [some (.ref 44), some (pw_i 9)]) (Nat.le_trans (by decide) hd) E rfl (fun _ => pw_iV rfl rfl rfl rfl (pw_cellI f2h rfl)) (rfl : pm_ent 48 = some (2, 2, 5, 4, pmc_48)) rfl rfl (cm_48_28 (pw_dp hd (by decide)) h2I 9 (by decide) (by decide) J2 (Or.inl (by decide)) (fun _ => by omega)) ?_
          rintro h3 v4 ⟨h3I, h3E, ⟨h3J, h3p, h3k⟩, rfl⟩
          refine ⟨_, rfl, ?_⟩
          show pw X d h3 47 133 [some (.ref 44), some (.ref 40), some (.ref 46), some (pw_i 0), some (pw_i 1), some (pw_i nb), some (pw_i fa)] [] _
          have F3 := F2.tr (h3E.wk (W' := [28, 29, 30, 33, 36]) (by first | rfl | simp))
          rw [if_pos (by decide), if_pos (by decide)] at h3J
          have m31 : pw_g h3 30 1 = pw_g h2 30 1 := pw_Eg (c := 30) h2I h3E rfl rfl 1
          have m35 := h3k 5 (by decide)
          have m36 := h3k 6 (by decide)
          have P3 : pw_P 28 29 h3 (T + 1) := by
            obtain ⟨p1, p2, p3⟩ := P
            refine ⟨?_, by omega, by omega⟩
            rw [show pw_g h3 28 5 = pw_g h 28 5 + 1 by omega, show pw_g h3 28 6 = pw_g h 28 6 + 1 by omega]
            exact h3J
          refine pw_ld E (pc' := 134) (st' := [pw_i 0]) rfl (fun _ => rfl) ?_
          refine pw_iret E rfl ?_
          exact ⟨h3I, F3, P3, ⟨_, rfl, by omega, by omega, Or.inl hk4⟩⟩
        · intro hz
          change ¬ ((0 : Int) = 0) at hz
          exfalso; omega
  have K70 : ∀ (nt opn nb fa : Int), (nt = 0 ∨ (nt = 1 ∧ pw_g h 24 4 = 1)) → (opn = 0 ∨ (opn = 1 ∧ pw_g h 24 4 = 3)) → (nb = 0 ∨ (nb = 1 ∧ pw_g h 24 4 = 2)) → -1 ≤ fa → fa ≤ 60 → (pw_g h 24 4 = 1 ∨ fa = -1) → pw_g h 24 4 ≠ 4 → pw X d h 47 70 [some (.ref 44), some (.ref 40), some (.ref 46), some (pw_i nt), some (pw_i opn), some (pw_i nb), some (pw_i fa)] [] (fun h' v => pw_I h' ∧ pw_E [28, 29, 30, 33, 36] h h' ∧ pw_P 28 29 h' (T + 1) ∧ ∃ a : Int, v = .inl (some (pw_i a)) ∧ 0 ≤ a ∧ a ≤ 5 ∧ (pw_g h 24 4 ≠ 4 ∨ a = 1)) := by
    intro nt opn nb fa y1 y2 y3 y4 y5 y6 hk4
    refine pw_ld E (pc' := 71) (st' := [.ref 44]) rfl (fun _ => rfl) ?_
    refine pw_getI I E (c := 28) (k := 5) (pc' := 74) rfl rfl rfl rfl rfl rfl (fun ga1 ga2 ga3 ga4 => ?_)
    refine pw_ld E (pc' := 75) (st' := [pw_i 5, pw_i (pw_g h 28 5)]) rfl (fun _ => rfl) ?_
    refine pw_if2 E (pc' := 80) rfl (by decide) (by omega) (by omega) (by decide) (by decide) ?_ ?_
    · intro hc
      change pw_g h 28 5 < 5 at hc
      refine pw_ld E (pc' := 81) (st' := [pw_i nt]) rfl (fun _ => rfl) ?_
      refine pw_if E (pc' := 89) rfl (by decide) (by omega) (by omega) ?_ ?_
      · intro hn
        change nt ≠ 0 at hn
        exact K89 nt opn nb fa y1 y2 y3 y4 y5 y6 (Or.inl hn) (by omega) hk4
      · intro _
        refine pw_ld E (pc' := 86) (st' := [pw_i opn]) rfl (fun _ => rfl) ?_
        refine pw_if E (pc' := 135) rfl (by decide) (by omega) (by omega) ?_ ?_
        · intro _
          exact K135 nt opn nb fa y1 y2 y3 y4 y5 y6 hk4
        · intro hn
          change ¬ (opn = 0) at hn
          exact K89 nt opn nb fa y1 y2 y3 y4 y5 y6 (Or.inr hn) (by omega) hk4
    · intro _
      refine pw_ld E (pc' := 79) (st' := [pw_i 5]) rfl (fun _ => rfl) ?_
      refine pw_iret E rfl ?_
      exact ⟨I, E0, P.wk (by omega), ⟨_, rfl, by omega, by omega, Or.inl hk4⟩⟩
  have K48 : ∀ (nt opn nb fa : Int), (nt = 0 ∨ (nt = 1 ∧ pw_g h 24 4 = 1)) → (opn = 0 ∨ (opn = 1 ∧ pw_g h 24 4 = 3)) → (nb = 0 ∨ (nb = 1 ∧ pw_g h 24 4 = 2)) → -1 ≤ fa → fa ≤ 60 → (pw_g h 24 4 = 1 ∨ fa = -1) → pw X d h 47 48 [some (.ref 44), some (.ref 40), some (.ref 46), some (pw_i nt), some (pw_i opn), some (pw_i nb), some (pw_i fa)] [] (fun h' v => pw_I h' ∧ pw_E [28, 29, 30, 33, 36] h h' ∧ pw_P 28 29 h' (T + 1) ∧ ∃ a : Int, v = .inl (some (pw_i a)) ∧ 0 ≤ a ∧ a ≤ 5 ∧ (pw_g h 24 4 ≠ 4 ∨ a = 1)) := by
    intro nt opn nb fa y1 y2 y3 y4 y5 y6
    refine pw_ld E (pc' := 49) (st' := [pw_i nt]) rfl (fun _ => rfl) ?_
    refine pw_if E (pc' := 70) rfl (by decide) (by omega) (by omega) ?_ ?_
    · intro z
      change nt ≠ 0 at z
      exact K70 nt opn nb fa y1 y2 y3 y4 y5 y6 (by omega)
    · intro z1
      change ¬ (nt ≠ 0) at z1
      refine pw_ld E (pc' := 54) (st' := [pw_i opn]) rfl (fun _ => rfl) ?_
      refine pw_if E (pc' := 70) rfl (by decide) (by omega) (by omega) ?_ ?_
      · intro z
        change opn ≠ 0 at z
        exact K70 nt opn nb fa y1 y2 y3 y4 y5 y6 (by omega)
      · intro z2
        change ¬ (opn ≠ 0) at z2
        refine pw_ld E (pc' := 59) (st' := [pw_i nb]) rfl (fun _ => rfl) ?_
        refine pw_if E (pc' := 70) rfl (by decide) (by omega) (by omega) ?_ ?_
        · intro z
          change nb ≠ 0 at z
          exact K70 nt opn nb fa y1 y2 y3 y4 y5 y6 (by omega)
        · intro z3
          change ¬ (nb ≠ 0) at z3
          refine pw_ld E (pc' := 64) (st' := [pw_i fa]) rfl (fun _ => rfl) ?_
          refine pw_ld E (pc' := 65) (st' := [pw_i (-1), pw_i fa]) rfl (fun _ => rfl) ?_
          refine pw_if2 E (pc' := 70) rfl (by decide) (by omega) (by omega) (by decide) (by decide) ?_ ?_
          · intro z
            change fa ≠ -1 at z
            exact K70 nt opn nb fa y1 y2 y3 y4 y5 y6 (by omega)
          · intro _
            refine pw_ld E (pc' := 69) (st' := [pw_i 1]) rfl (fun _ => rfl) ?_
            refine pw_iret E rfl ?_
            exact ⟨I, E0, P.wk (by omega), ⟨_, rfl, by omega, by omega, Or.inr rfl⟩⟩
  have K38 : ∀ (nt opn nb : Int), (nt = 0 ∨ (nt = 1 ∧ pw_g h 24 4 = 1)) → (opn = 0 ∨ (opn = 1 ∧ pw_g h 24 4 = 3)) → (nb = 0 ∨ (nb = 1 ∧ pw_g h 24 4 = 2)) → pw X d h 47 38 [some (.ref 44), some (.ref 40), some (.ref 46), some (pw_i nt), some (pw_i opn), some (pw_i nb), none] [] (fun h' v => pw_I h' ∧ pw_E [28, 29, 30, 33, 36] h h' ∧ pw_P 28 29 h' (T + 1) ∧ ∃ a : Int, v = .inl (some (pw_i a)) ∧ 0 ≤ a ∧ a ≤ 5 ∧ (pw_g h 24 4 ≠ 4 ∨ a = 1)) := by
    intro nt opn nb y1 y2 y3
    refine pw_ld E (pc' := 39) (st' := [.ref 40]) rfl (fun _ => rfl) ?_
    refine pw_ld E (pc' := 40) (st' := [.ref 44, .ref 40]) rfl (fun _ => rfl) ?_
    refine pw_getR (b := 7) I E (c := 28) (k := 1) (pc' := 43) rfl rfl rfl rfl rfl rfl rfl ?_
    obtain ⟨f1l, f1h, -⟩ := pw_obj (c := 24) I rfl
    refine pw_call (m' := 108) (As := [.ref 40, .ref 7]) (rest := []) (ls'' := [some (.ref 40), some (.ref 7), none, none, none, none, none]) (Nat.le_trans (by decide) hd) E rfl (fun _ => pw_iV rfl rfl rfl rfl (pw_cellI f1h rfl)) (rfl : pm_ent 108 = some (2, 7, 9, 0, pmc_108)) rfl rfl (cm_108_24 (pw_dp hd (by decide)) I hX 7 (by decide) (by decide)) ?_
    rintro u1 w1 ⟨rfl, x, rfl, hxa, hxb, hxr⟩
    refine ⟨_, rfl, ?_⟩
    show pw X d h 47 46 [some (.ref 44), some (.ref 40), some (.ref 46), some (pw_i nt), some (pw_i opn), some (pw_i nb), none] [pw_i x] _
    refine pw_ist E (pc' := 48) (ls' := [some (.ref 44), some (.ref 40), some (.ref 46), some (pw_i nt), some (pw_i opn), some (pw_i nb), some (pw_i x)]) rfl rfl rfl rfl ?_
    exact K48 nt opn nb x y1 y2 y3 hxa hxb hxr
  have K15 : ∀ (nt : Int), (nt = 0 ∨ (nt = 1 ∧ pw_g h 24 4 = 1)) → pw X d h 47 15 [some (.ref 44), some (.ref 40), some (.ref 46), some (pw_i nt), none, none, none] [] (fun h' v => pw_I h' ∧ pw_E [28, 29, 30, 33, 36] h h' ∧ pw_P 28 29 h' (T + 1) ∧ ∃ a : Int, v = .inl (some (pw_i a)) ∧ 0 ≤ a ∧ a ≤ 5 ∧ (pw_g h 24 4 ≠ 4 ∨ a = 1)) := by
    intro nt y1
    refine pw_ld E (pc' := 16) (st' := [.ref 40]) rfl (fun _ => rfl) ?_
    refine pw_bip E (pc' := 18) rfl rfl (by decide) ?_
    obtain ⟨f1l, f1h, -⟩ := pw_obj (c := 24) I rfl
    refine pw_call (m' := 109) (As := [.ref 40, pw_i 40]) (rest := []) (ls'' := [some (.ref 40), some (pw_i 40)]) (Nat.le_trans (by decide) hd) E rfl (fun _ => pw_iV rfl rfl rfl rfl (pw_cellI f1h rfl)) (rfl : pm_ent 109 = some (2, 2, 9, 1, pmc_109)) rfl rfl (cm_109_24 (pw_dp hd (by decide)) I 40 (by decide) (by decide)) ?_
    rintro u1 w1 ⟨rfl, x, rfl, hxa, hxb, hxr⟩
    refine ⟨_, rfl, ?_⟩
    show pw X d h 47 21 [some (.ref 44), some (.ref 40), some (.ref 46), some (pw_i nt), none, none, none] [pw_i x] _
    refine pw_ist E (pc' := 23) (ls' := [some (.ref 44), some (.ref 40), some (.ref 46), some (pw_i nt), some (pw_i x), none, none]) rfl rfl rfl rfl ?_
    refine pw_ld E (pc' := 24) (st' := [.ref 40]) rfl (fun _ => rfl) ?_
    obtain ⟨f2l, f2h, -⟩ := pw_obj (c := 24) I rfl
    refine pw_call (m' := 107) (As := [.ref 40]) (rest := []) (ls'' := [some (.ref 40)]) (Nat.le_trans (by decide) hd) E rfl (fun _ => pw_iV rfl rfl rfl rfl (pw_cellI f2h rfl)) (rfl : pm_ent 107 = some (1, 1, 9, 0, pmc_107)) rfl rfl (cm_107_24 (pw_dp hd (by decide)) I) ?_
    rintro u2 w2 ⟨rfl, y, rfl, hya, hyb, hyr⟩
    refine ⟨_, rfl, ?_⟩
    show pw X d h 47 27 [some (.ref 44), some (.ref 40), some (.ref 46), some (pw_i nt), some (pw_i x), none, none] [pw_i y] _
    refine pw_ld E (pc' := 28) (st' := [pw_i 2, pw_i y]) rfl (fun _ => rfl) ?_
    refine pw_if2 E (pc' := 35) rfl (by decide) (by omega) (by omega) (by decide) (by decide) ?_ ?_
    · intro _
      refine pw_ld E (pc' := 36) (st' := [pw_i 0]) rfl (fun _ => rfl) ?_
      refine pw_ist E (pc' := 38) (ls' := [some (.ref 44), some (.ref 40), some (.ref 46), some (pw_i nt), some (pw_i x), some (pw_i 0), none]) rfl rfl rfl rfl ?_
      exact K38 nt x 0 y1 (by omega) (by omega)
    · intro z
      change ¬ (y ≠ 2) at z
      refine pw_ld E (pc' := 32) (st' := [pw_i 1]) rfl (fun _ => rfl) ?_
      refine pw_goto E (pc' := 36) rfl (by decide) ?_
      refine pw_ist E (pc' := 38) (ls' := [some (.ref 44), some (.ref 40), some (.ref 46), some (pw_i nt), some (pw_i x), some (pw_i 1), none]) rfl rfl rfl rfl ?_
      exact K38 nt x 1 y1 (by omega) (by omega)
  refine pw_ld E (pc' := 1) (st' := [.ref 40]) rfl (fun _ => rfl) ?_
  refine pw_ld E (pc' := 3) (st' := [.ref 10, .ref 40]) rfl (fun _ => rfl) ?_
  obtain ⟨f1l, f1h, -⟩ := pw_obj (c := 24) I rfl
  refine pw_call (m' := 108) (As := [.ref 40, .ref 10]) (rest := []) (ls'' := [some (.ref 40), some (.ref 10), none, none, none, none, none]) (Nat.le_trans (by decide) hd) E rfl (fun _ => pw_iV rfl rfl rfl rfl (pw_cellI f1h rfl)) (rfl : pm_ent 108 = some (2, 7, 9, 0, pmc_108)) rfl rfl (cm_108_24 (pw_dp hd (by decide)) I hX 10 (by decide) (by decide)) ?_
  rintro u1 w1 ⟨rfl, x, rfl, hxa, hxb, hxr⟩
  refine ⟨_, rfl, ?_⟩
  show pw X d h 47 6 [some (.ref 44), some (.ref 40), some (.ref 46), none, none, none, none] [pw_i x] _
  refine pw_if E (pc' := 13) rfl (by decide) (by omega) (by omega) ?_ ?_
  · intro _
    refine pw_ld E (pc' := 14) (st' := [pw_i 0]) rfl (fun _ => rfl) ?_
    refine pw_istn E (pc' := 15) (ls' := [some (.ref 44), some (.ref 40), some (.ref 46), some (pw_i 0), none, none, none]) rfl rfl rfl rfl ?_
    exact K15 0 (by omega)
  · intro z
    change ¬ (x ≠ 0) at z
    refine pw_ld E (pc' := 10) (st' := [pw_i 1]) rfl (fun _ => rfl) ?_
    refine pw_goto E (pc' := 14) rfl (by decide) ?_
    refine pw_istn E (pc' := 15) (ls' := [some (.ref 44), some (.ref 40), some (.ref 46), some (pw_i 1), none, none, none]) rfl rfl rfl rfl ?_
    exact K15 1 (by omega)
end
section
/-! the Readers: the word of a line, a numeral (printed by wip/tool/reader6.py) -/
set_option maxHeartbeats 4000000 in
theorem cm_110_24 {X : List (Nat × List Value)} {d : Nat} {h : pm_H} (hd : 1 ≤ d) (I : pw_I h)  : pw X d h 110 0 [some (.ref 40)] [] (fun h' v => h = h' ∧ ∃ a : Int, v = .inl (some (pw_i a)) ∧ (-2147483648) ≤ a ∧ a ≤ 2147483647 ∧ (a = pw_g h 24 5)) := by
  have E : pm_ent 110 = some (1, 1, 9, 0, pmc_110) := rfl
  refine pw_ld E (pc' := 1) (st' := [.ref 40]) rfl (fun _ => rfl) ?_
  refine pw_getI2 I E (c := 24) (k := 5) (pc' := 4) rfl rfl rfl rfl rfl rfl (fun hf1a hf1b => ?_)
  refine pw_iret E rfl ?_
  exact ⟨rfl, ⟨_, rfl, by omega, by omega, by omega⟩⟩
set_option maxHeartbeats 4000000 in
theorem cm_70_30 {X : List (Nat × List Value)} {d : Nat} {h : pm_H} (hd : 1 ≤ d) (I : pw_I h) (li : Int) (hli1 : 0 ≤ li) (hli2 : li ≤ 3) : pw X d h 70 0 [some (.ref 46), some (pw_i li)] [] (fun h' v => pw_I h' ∧ pw_E [31, 32, 33] h h' ∧ v = .inl none) := by
  have E : pm_ent 70 = some (2, 2, 7, 4, pmc_70) := rfl
  have E0 : pw_E [31, 32, 33] h h := pw_E.rf _ _
  refine pw_ld E (pc' := 1) (st' := [.ref 46]) rfl (fun _ => rfl) ?_
  refine pw_getR (b := 47) I E (c := 30) (k := 2) (pc' := 4) rfl rfl rfl rfl rfl rfl rfl ?_
  refine pw_ld E (pc' := 5) (st' := [pw_i li, .ref 47]) rfl (fun _ => rfl) ?_
  refine pw_ld E (pc' := 6) (st' := [pw_i 1, pw_i li, .ref 47]) rfl (fun _ => rfl) ?_
  refine pw_ast0 I E (c := 31) (pc' := 7) rfl rfl rfl (by decide) rfl (by decide) (by omega) (by omega) (pw_b1 (by omega) (by omega)) (by omega) (by omega) (by omega) (by omega) rfl ?_
  intro h1I h1E
  generalize h1w : pw_w h 31 (li.toNat) (pw_i 1) = h1 at h1I h1E ⊢
  have h1F := E0.tr (h1E.wk (W' := [31, 32, 33]) (by first | rfl | simp))
  refine pw_ld E (pc' := 8) (st' := [.ref 46]) rfl (fun _ => rfl) ?_
  refine pw_getR (b := 48) h1I E (c := 30) (k := 3) (pc' := 11) rfl rfl rfl rfl rfl rfl rfl ?_
  refine pw_ld E (pc' := 12) (st' := [pw_i li, .ref 48]) rfl (fun _ => rfl) ?_
  refine pw_ld E (pc' := 13) (st' := [.ref 46, pw_i li, .ref 48]) rfl (fun _ => rfl) ?_
  refine pw_getI2 h1I E (c := 30) (k := 1) (pc' := 16) rfl rfl rfl rfl rfl rfl (fun hf2a hf2b => ?_)
  refine pw_ast0 h1I E (c := 32) (pc' := 17) rfl rfl rfl (by decide) rfl (by decide) (by omega) (by omega) rfl (by omega) (by omega) (by omega) (by omega) rfl ?_
  intro h3I h3E
  generalize h3w : pw_w h1 32 (li.toNat) (pw_i (pw_g h1 30 1)) = h3 at h3I h3E ⊢
  have h3F := h1F.tr (h3E.wk (W' := [31, 32, 33]) (by first | rfl | simp))
  refine pw_ld E (pc' := 18) (st' := [.ref 46]) rfl (fun _ => rfl) ?_
  refine pw_getR (b := 49) h3I E (c := 30) (k := 4) (pc' := 21) rfl rfl rfl rfl rfl rfl rfl ?_
  refine pw_ld E (pc' := 22) (st' := [pw_i li, .ref 49]) rfl (fun _ => rfl) ?_
  refine pw_ld E (pc' := 23) (st' := [.ref 46, pw_i li, .ref 49]) rfl (fun _ => rfl) ?_
  have he5 : pw_g h3 30 1 = pw_g h1 30 1 := by rw [← h3w]; exact pw_g_ne (by omega)
  refine pw_getI2 h3I E (c := 30) (k := 1) (pc' := 26) rfl rfl rfl rfl rfl rfl (fun hf4a hf4b => ?_)
  refine pw_ast0 h3I E (c := 33) (pc' := 27) rfl rfl rfl (by decide) rfl (by decide) (by omega) (by omega) rfl (by omega) (by omega) (by omega) (by omega) rfl ?_
  intro h6I h6E
  generalize h6w : pw_w h3 33 (li.toNat) (pw_i (pw_g h3 30 1)) = h6 at h6I h6E ⊢
  have h6F := h3F.tr (h6E.wk (W' := [31, 32, 33]) (by first | rfl | simp))
  refine pw_vret E rfl ?_
  exact ⟨h6I, h6F, rfl⟩
set_option maxHeartbeats 4000000 in
theorem cm_68_30 {X : List (Nat × List Value)} {d : Nat} {h : pm_H} (hd : 1 ≤ d) (I : pw_I h)  : pw X d h 68 0 [some (.ref 46), none] [] (fun h' v => pw_I h' ∧ pw_E [30, 31] h h' ∧ (pw_g h' 30 1 = 0) ∧ (v = .inl none)) := by
  have E : pm_ent 68 = some (1, 2, 7, 4, pmc_68) := rfl
  have E0 : pw_E [30, 31] h h := pw_E.rf _ _
  refine pw_ld E (pc' := 1) (st' := [.ref 46]) rfl (fun _ => rfl) ?_
  refine pw_ld E (pc' := 2) (st' := [pw_i 0, .ref 46]) rfl (fun _ => rfl) ?_
  refine pw_putI I E (c := 30) (k := 1) (pc' := 5) rfl rfl rfl rfl (by omega) (by omega) (by omega) (by omega) rfl rfl ?_
  intro h1I h1E
  generalize h1w : pw_w h 30 1 (pw_i 0) = h1 at h1I h1E ⊢
  have h1F := E0.tr (h1E.wk (W' := [30, 31]) (by first | rfl | simp))
  refine pw_ld E (pc' := 6) (st' := [pw_i 0]) rfl (fun _ => rfl) ?_
  refine pw_istn E (pc' := 7) (ls' := [some (.ref 46), some (pw_i 0)]) rfl rfl rfl rfl ?_
  have L7 : ∀ (n7 : Nat) (k7_1 : Int) (h7 : pm_H), pw_I h7 → pw_E [30, 31] h h7 → 0 ≤ k7_1 → k7_1 ≤ 4 → pw_g h7 30 1 = 0 → (4 - k7_1).toNat = n7 → pw X d h7 68 7 [some (.ref 46), some (pw_i k7_1)] [] (fun h' v => pw_I h' ∧ pw_E [30, 31] h h' ∧ (pw_g h' 30 1 = 0) ∧ (v = .inl none)) := by
    intro n7
    induction n7 using Nat.strongRecOn with
    | ind n7 ih7 =>
      intro k7_1 h7 I7 E7 k7_1a k7_1b hx7_0 hm7
      refine pw_ld E (pc' := 8) (st' := [pw_i k7_1]) rfl (fun _ => rfl) ?_
      refine pw_ld E (pc' := 9) (st' := [pw_i 4, pw_i k7_1]) rfl (fun _ => rfl) ?_
      refine pw_if2 E (pc' := 25) rfl (by decide) (by omega) (by omega) (by decide) (by decide) ?_ ?_
      · intro hc2
        change (4 : Int) ≤ k7_1 at hc2
        refine pw_vret E rfl ?_
        exact ⟨I7, E7, ⟨by omega, rfl⟩⟩
      · intro hc3
        change ¬ ((4 : Int) ≤ k7_1) at hc3
        refine pw_ld E (pc' := 13) (st' := [.ref 46]) rfl (fun _ => rfl) ?_
        refine pw_getR (b := 47) I7 E (c := 30) (k := 2) (pc' := 16) rfl rfl rfl rfl rfl rfl rfl ?_
        refine pw_ld E (pc' := 17) (st' := [pw_i k7_1, .ref 47]) rfl (fun _ => rfl) ?_
        refine pw_ld E (pc' := 18) (st' := [pw_i 0, pw_i k7_1, .ref 47]) rfl (fun _ => rfl) ?_
        refine pw_ast0 I7 E (c := 31) (pc' := 19) rfl rfl rfl (by decide) rfl (by decide) (by omega) (by omega) (pw_b1 (by omega) (by omega)) (by omega) (by omega) (by omega) (by omega) rfl ?_
        intro h4I h4E
        generalize h4w : pw_w h7 31 (k7_1.toNat) (pw_i 0) = h4 at h4I h4E ⊢
        have h4F := E7.tr (h4E.wk (W' := [30, 31]) (by first | rfl | simp))
        refine pw_inc E (pc' := 22) (ls' := [some (.ref 46), some (pw_i (k7_1 + 1))]) rfl rfl rfl rfl ?_
        refine pw_goto E (pc' := 7) rfl (by decide) ?_
        have he5 : pw_g h4 30 1 = pw_g h7 30 1 := by rw [← h4w]; exact pw_g_ne (by omega)
        exact ih7 _ (by omega) (k7_1 + 1) h4 h4I h4F (by omega) (by omega) (by omega) rfl
  have he6 : pw_g h1 30 1 = 0 := by rw [← h1w]; exact pw_g_eq (c := 30) (k := 1) I rfl rfl (by omega) (by omega)
  exact L7 _ (0) h1 h1I h1F (by omega) (by omega) (by omega) rfl
set_option maxHeartbeats 4000000 in
theorem cm_46_26 {X : List (Nat × List Value)} {d : Nat} {h : pm_H} (hd : 2 ≤ d) (I : pw_I h) (hX : pw_Xk X)  : pw X d h 46 0 [some (.ref 42), some (.ref 40), some (.ref 46), none] [] (fun h' v => pw_I h' ∧ pw_E [26, 31, 32, 33] h h' ∧ ((pw_g h' 26 7 = pw_g h 26 7 ∨ (pw_g h' 26 4 = 0 ∧ pw_g h' 26 5 = 0 ∧ pw_g h' 26 6 = 0))) ∧ (∃ a : Int, v = .inl (some (pw_i a)) ∧ 0 ≤ a ∧ a ≤ 3)) := by
  have E : pm_ent 46 = some (3, 4, 5, 0, pmc_46) := rfl
  have E0 : pw_E [26, 31, 32, 33] h h := pw_E.rf _ _
  refine pw_ld E (pc' := 1) (st' := [.ref 40]) rfl (fun _ => rfl) ?_
  obtain ⟨f1l, f1h, -⟩ := pw_obj (c := 24) I rfl
  refine pw_call (m' := 107) (As := [.ref 40]) (rest := []) (ls'' := [some (.ref 40)]) (Nat.le_trans (by decide) hd) E rfl (fun _ => pw_iV rfl rfl rfl rfl (pw_cellI f1h rfl)) (rfl : pm_ent 107 = some (1, 1, 9, 0, pmc_107)) rfl rfl (cm_107_24 (pw_dp hd (by decide)) I ) ?_
  rintro u3 v2 ⟨rfl, x4, rfl, hx4a, hx4b, hx4r⟩
  refine ⟨_, rfl, ?_⟩
  show pw X d h 46 4 [some (.ref 42), some (.ref 40), some (.ref 46), none] [pw_i x4] _
  change x4 = pw_g h 24 4 at hx4r
  refine pw_ld E (pc' := 5) (st' := [pw_i 4, pw_i x4]) rfl (fun _ => rfl) ?_
  refine pw_if2 E (pc' := 10) rfl (by decide) (by omega) (by omega) (by decide) (by decide) ?_ ?_
  · intro hc5
    change x4 ≠ (4 : Int) at hc5
    refine pw_ld E (pc' := 11) (st' := [.ref 40]) rfl (fun _ => rfl) ?_
    refine pw_ld E (pc' := 12) (st' := [.ref 42, .ref 40]) rfl (fun _ => rfl) ?_
    refine pw_getR (b := 4) I E (c := 26) (k := 0) (pc' := 15) rfl rfl rfl rfl rfl rfl rfl ?_
    obtain ⟨f6l, f6h, -⟩ := pw_obj (c := 24) I rfl
    refine pw_call (m' := 108) (As := [.ref 40, .ref 4]) (rest := []) (ls'' := [some (.ref 40), some (.ref 4), none, none, none, none, none]) (Nat.le_trans (by decide) hd) E rfl (fun _ => pw_iV rfl rfl rfl rfl (pw_cellI f6h rfl)) (rfl : pm_ent 108 = some (2, 7, 9, 0, pmc_108)) rfl rfl (cm_108_24 (pw_dp hd (by decide)) I hX 4 (by omega) (by omega)) ?_
    rintro u8 v7 ⟨rfl, x9, rfl, hx9a, hx9b, hx9r⟩
    refine ⟨_, rfl, ?_⟩
    show pw X d h 46 18 [some (.ref 42), some (.ref 40), some (.ref 46), none] [pw_i x9] _
    change pw_g h 24 4 = 1 ∨ x9 = -1 at hx9r
    refine pw_istn E (pc' := 19) (ls' := [some (.ref 42), some (.ref 40), some (.ref 46), some (pw_i x9)]) rfl rfl rfl rfl ?_
    refine pw_ld E (pc' := 20) (st' := [pw_i x9]) rfl (fun _ => rfl) ?_
    refine pw_if E (pc' := 32) rfl (by decide) (by omega) (by omega) ?_ ?_
    · intro hc10
      change x9 < (0 : Int) at hc10
      refine pw_ld E (pc' := 33) (st' := [pw_i 1]) rfl (fun _ => rfl) ?_
      refine pw_iret E rfl ?_
      exact ⟨I, E0, ⟨by omega, ⟨_, rfl, by omega, by omega⟩⟩⟩
    · intro hc11
      change ¬ (x9 < (0 : Int)) at hc11
      refine pw_ld E (pc' := 24) (st' := [pw_i x9]) rfl (fun _ => rfl) ?_
      refine pw_ld E (pc' := 25) (st' := [.ref 42, pw_i x9]) rfl (fun _ => rfl) ?_
      refine pw_getR (b := 1) I E (c := 26) (k := 2) (pc' := 28) rfl rfl rfl rfl rfl rfl rfl ?_
      obtain ⟨y12l, y12x, y12n, y12r⟩ := hX.1
      refine pw_xlen E (pc' := 29) rfl y12x (by decide) y12n rfl ?_
      refine pw_if2 E (pc' := 34) rfl (by decide) (by omega) (by omega) (by decide) (by decide) ?_ ?_
      · intro hc13
        change x9 < (4 : Nat) at hc13
        refine pw_ld E (pc' := 35) (st' := [.ref 46]) rfl (fun _ => rfl) ?_
        refine pw_ld E (pc' := 36) (st' := [pw_i x9, .ref 46]) rfl (fun _ => rfl) ?_
        obtain ⟨f14l, f14h, -⟩ := pw_obj (c := 30) I rfl
        refine pw_call (m' := 69) (As := [.ref 46, pw_i x9]) (rest := []) (ls'' := [some (.ref 46), some (pw_i x9)]) (Nat.le_trans (by decide) hd) E rfl (fun _ => pw_iV rfl rfl rfl rfl (pw_cellI f14h rfl)) (rfl : pm_ent 69 = some (2, 2, 7, 1, pmc_69)) rfl rfl (cm_69_30 (pw_dp hd (by decide)) I (x9) (by omega) (by omega)) ?_
        rintro u16 v15 ⟨rfl, x17, rfl, hx17a, hx17b⟩
        refine ⟨_, rfl, ?_⟩
        show pw X d h 46 39 [some (.ref 42), some (.ref 40), some (.ref 46), some (pw_i x9)] [pw_i x17] _
        refine pw_if E (pc' := 44) rfl (by decide) (by omega) (by omega) ?_ ?_
        · intro hc18
          change x17 = (0 : Int) at hc18
          refine pw_ld E (pc' := 45) (st' := [.ref 42]) rfl (fun _ => rfl) ?_
          refine pw_ld E (pc' := 46) (st' := [pw_i x9, .ref 42]) rfl (fun _ => rfl) ?_
          refine pw_putI I E (c := 26) (k := 8) (pc' := 49) rfl rfl rfl rfl (by omega) (by omega) (by omega) (by omega) rfl rfl ?_
          intro h19I h19E
          generalize h19w : pw_w h 26 8 (pw_i x9) = h19 at h19I h19E ⊢
          have h19F := E0.tr (h19E.wk (W' := [26, 31, 32, 33]) (by first | rfl | simp))
          refine pw_ld E (pc' := 50) (st' := [.ref 46]) rfl (fun _ => rfl) ?_
          refine pw_ld E (pc' := 51) (st' := [pw_i x9, .ref 46]) rfl (fun _ => rfl) ?_
          obtain ⟨f20l, f20h, -⟩ := pw_obj (c := 30) h19I rfl
          refine pw_call (m' := 70) (As := [.ref 46, pw_i x9]) (rest := []) (ls'' := [some (.ref 46), some (pw_i x9)]) (Nat.le_trans (by decide) hd) E rfl (fun _ => pw_iV rfl rfl rfl rfl (pw_cellI f20h rfl)) (rfl : pm_ent 70 = some (2, 2, 7, 4, pmc_70)) rfl rfl (cm_70_30 (pw_dp hd (by decide)) h19I (x9) (by omega) (by omega)) ?_
          rintro h21 v22 ⟨h21I, h21E, rfl⟩
          refine ⟨_, rfl, ?_⟩
          have h21F := h19F.tr (h21E.wk (W' := [26, 31, 32, 33]) (by first | rfl | simp))
          show pw X d h21 46 54 [some (.ref 42), some (.ref 40), some (.ref 46), some (pw_i x9)] [] _
          refine pw_ld E (pc' := 55) (st' := [.ref 42]) rfl (fun _ => rfl) ?_
          refine pw_ld E (pc' := 56) (st' := [pw_i 0, .ref 42]) rfl (fun _ => rfl) ?_
          refine pw_putI h21I E (c := 26) (k := 4) (pc' := 59) rfl rfl rfl rfl (by omega) (by omega) (by omega) (by omega) rfl rfl ?_
          intro h23I h23E
          generalize h23w : pw_w h21 26 4 (pw_i 0) = h23 at h23I h23E ⊢
          have h23F := h21F.tr (h23E.wk (W' := [26, 31, 32, 33]) (by first | rfl | simp))
          refine pw_ld E (pc' := 60) (st' := [.ref 42]) rfl (fun _ => rfl) ?_
          refine pw_ld E (pc' := 61) (st' := [pw_i 0, .ref 42]) rfl (fun _ => rfl) ?_
          refine pw_putI h23I E (c := 26) (k := 5) (pc' := 64) rfl rfl rfl rfl (by omega) (by omega) (by omega) (by omega) rfl rfl ?_
          intro h24I h24E
          generalize h24w : pw_w h23 26 5 (pw_i 0) = h24 at h24I h24E ⊢
          have h24F := h23F.tr (h24E.wk (W' := [26, 31, 32, 33]) (by first | rfl | simp))
          refine pw_ld E (pc' := 65) (st' := [.ref 42]) rfl (fun _ => rfl) ?_
          refine pw_ld E (pc' := 66) (st' := [pw_i 0, .ref 42]) rfl (fun _ => rfl) ?_
          refine pw_putI h24I E (c := 26) (k := 6) (pc' := 69) rfl rfl rfl rfl (by omega) (by omega) (by omega) (by omega) rfl rfl ?_
          intro h25I h25E
          generalize h25w : pw_w h24 26 6 (pw_i 0) = h25 at h25I h25E ⊢
          have h25F := h24F.tr (h25E.wk (W' := [26, 31, 32, 33]) (by first | rfl | simp))
          refine pw_ld E (pc' := 70) (st' := [.ref 42]) rfl (fun _ => rfl) ?_
          refine pw_getR (b := 1) h25I E (c := 26) (k := 2) (pc' := 73) rfl rfl rfl rfl rfl rfl rfl ?_
          refine pw_ld E (pc' := 74) (st' := [pw_i x9, .ref 1]) rfl (fun _ => rfl) ?_
          obtain ⟨y26l, y26x, y26n, y26r⟩ := hX.1
          refine pw_xald E (pc' := 75) rfl y26x (by decide) y26n y26r (by decide) (by omega) (by omega) rfl (fun x27 hx27a hx27b => ?_)
          refine pw_ld E (pc' := 76) (st' := [pw_i ((-1)), pw_i x27]) rfl (fun _ => rfl) ?_
          refine pw_if2 E (pc' := 87) rfl (by decide) (by omega) (by omega) (by decide) (by decide) ?_ ?_
          · intro hc28
            change x27 ≠ ((-1) : Int) at hc28
            refine pw_ld E (pc' := 88) (st' := [.ref 42]) rfl (fun _ => rfl) ?_
            refine pw_ld E (pc' := 89) (st' := [.ref 42, .ref 42]) rfl (fun _ => rfl) ?_
            refine pw_getR (b := 1) h25I E (c := 26) (k := 2) (pc' := 92) rfl rfl rfl rfl rfl rfl rfl ?_
            refine pw_ld E (pc' := 93) (st' := [pw_i x9, .ref 1, .ref 42]) rfl (fun _ => rfl) ?_
            obtain ⟨y29l, y29x, y29n, y29r⟩ := hX.1
            refine pw_xald E (pc' := 94) rfl y29x (by decide) y29n y29r (by decide) (by omega) (by omega) rfl (fun x30 hx30a hx30b => ?_)
            refine pw_bip E (pc' := 96) rfl rfl (by decide) ?_
            refine pw_if2 E (pc' := 103) rfl (by decide) (by omega) (by omega) (by decide) (by decide) ?_ ?_
            · intro hc31
              change x30 ≠ ((-2) : Int) at hc31
              refine pw_ld E (pc' := 104) (st' := [pw_i 4, .ref 42]) rfl (fun _ => rfl) ?_
              refine pw_putI h25I E (c := 26) (k := 7) (pc' := 107) rfl rfl rfl rfl (by omega) (by omega) (by omega) (by omega) rfl rfl ?_
              intro h32I h32E
              generalize h32w : pw_w h25 26 7 (pw_i 4) = h32 at h32I h32E ⊢
              have h32F := h25F.tr (h32E.wk (W' := [26, 31, 32, 33]) (by first | rfl | simp))
              refine pw_ld E (pc' := 108) (st' := [pw_i 0]) rfl (fun _ => rfl) ?_
              have he33 : pw_g h32 26 4 = pw_g h25 26 4 := by rw [← h32w]; exact pw_g_ne (by omega)
              have he34 : pw_g h25 26 4 = pw_g h24 26 4 := by rw [← h25w]; exact pw_g_ne (by omega)
              have he35 : pw_g h24 26 4 = pw_g h23 26 4 := by rw [← h24w]; exact pw_g_ne (by omega)
              have he36 : pw_g h23 26 4 = 0 := by rw [← h23w]; exact pw_g_eq (c := 26) (k := 4) h21I rfl rfl (by omega) (by omega)
              have he37 : pw_g h32 26 5 = pw_g h25 26 5 := by rw [← h32w]; exact pw_g_ne (by omega)
              have he38 : pw_g h25 26 5 = pw_g h24 26 5 := by rw [← h25w]; exact pw_g_ne (by omega)
              have he39 : pw_g h24 26 5 = 0 := by rw [← h24w]; exact pw_g_eq (c := 26) (k := 5) h23I rfl rfl (by omega) (by omega)
              have he40 : pw_g h32 26 6 = pw_g h25 26 6 := by rw [← h32w]; exact pw_g_ne (by omega)
              have he41 : pw_g h25 26 6 = 0 := by rw [← h25w]; exact pw_g_eq (c := 26) (k := 6) h24I rfl rfl (by omega) (by omega)
              have he42 : pw_g h32 26 7 = 4 := by rw [← h32w]; exact pw_g_eq (c := 26) (k := 7) h25I rfl rfl (by omega) (by omega)
              refine pw_iret E rfl ?_
              exact ⟨h32I, h32F, ⟨by omega, ⟨_, rfl, by omega, by omega⟩⟩⟩
            · intro hc43
              change ¬ (x30 ≠ ((-2) : Int)) at hc43
              refine pw_ld E (pc' := 100) (st' := [pw_i 1, .ref 42]) rfl (fun _ => rfl) ?_
              refine pw_goto E (pc' := 104) rfl (by decide) ?_
              refine pw_putI h25I E (c := 26) (k := 7) (pc' := 107) rfl rfl rfl rfl (by omega) (by omega) (by omega) (by omega) rfl rfl ?_
              intro h44I h44E
              generalize h44w : pw_w h25 26 7 (pw_i 1) = h44 at h44I h44E ⊢
              have h44F := h25F.tr (h44E.wk (W' := [26, 31, 32, 33]) (by first | rfl | simp))
              refine pw_ld E (pc' := 108) (st' := [pw_i 0]) rfl (fun _ => rfl) ?_
              have he45 : pw_g h44 26 4 = pw_g h25 26 4 := by rw [← h44w]; exact pw_g_ne (by omega)
              have he46 : pw_g h25 26 4 = pw_g h24 26 4 := by rw [← h25w]; exact pw_g_ne (by omega)
              have he47 : pw_g h24 26 4 = pw_g h23 26 4 := by rw [← h24w]; exact pw_g_ne (by omega)
              have he48 : pw_g h23 26 4 = 0 := by rw [← h23w]; exact pw_g_eq (c := 26) (k := 4) h21I rfl rfl (by omega) (by omega)
              have he49 : pw_g h44 26 5 = pw_g h25 26 5 := by rw [← h44w]; exact pw_g_ne (by omega)
              have he50 : pw_g h25 26 5 = pw_g h24 26 5 := by rw [← h25w]; exact pw_g_ne (by omega)
              have he51 : pw_g h24 26 5 = 0 := by rw [← h24w]; exact pw_g_eq (c := 26) (k := 5) h23I rfl rfl (by omega) (by omega)
              have he52 : pw_g h44 26 6 = pw_g h25 26 6 := by rw [← h44w]; exact pw_g_ne (by omega)
              have he53 : pw_g h25 26 6 = 0 := by rw [← h25w]; exact pw_g_eq (c := 26) (k := 6) h24I rfl rfl (by omega) (by omega)
              have he54 : pw_g h44 26 7 = 1 := by rw [← h44w]; exact pw_g_eq (c := 26) (k := 7) h25I rfl rfl (by omega) (by omega)
              refine pw_iret E rfl ?_
              exact ⟨h44I, h44F, ⟨by omega, ⟨_, rfl, by omega, by omega⟩⟩⟩
          · intro hc55
            change ¬ (x27 ≠ ((-1) : Int)) at hc55
            refine pw_ld E (pc' := 80) (st' := [.ref 42]) rfl (fun _ => rfl) ?_
            refine pw_ld E (pc' := 81) (st' := [pw_i 2, .ref 42]) rfl (fun _ => rfl) ?_
            refine pw_putI h25I E (c := 26) (k := 7) (pc' := 84) rfl rfl rfl rfl (by omega) (by omega) (by omega) (by omega) rfl rfl ?_
            intro h56I h56E
            generalize h56w : pw_w h25 26 7 (pw_i 2) = h56 at h56I h56E ⊢
            have h56F := h25F.tr (h56E.wk (W' := [26, 31, 32, 33]) (by first | rfl | simp))
            refine pw_goto E (pc' := 107) rfl (by decide) ?_
            refine pw_ld E (pc' := 108) (st' := [pw_i 0]) rfl (fun _ => rfl) ?_
            have he57 : pw_g h56 26 4 = pw_g h25 26 4 := by rw [← h56w]; exact pw_g_ne (by omega)
            have he58 : pw_g h25 26 4 = pw_g h24 26 4 := by rw [← h25w]; exact pw_g_ne (by omega)
            have he59 : pw_g h24 26 4 = pw_g h23 26 4 := by rw [← h24w]; exact pw_g_ne (by omega)
            have he60 : pw_g h23 26 4 = 0 := by rw [← h23w]; exact pw_g_eq (c := 26) (k := 4) h21I rfl rfl (by omega) (by omega)
            have he61 : pw_g h56 26 5 = pw_g h25 26 5 := by rw [← h56w]; exact pw_g_ne (by omega)
            have he62 : pw_g h25 26 5 = pw_g h24 26 5 := by rw [← h25w]; exact pw_g_ne (by omega)
            have he63 : pw_g h24 26 5 = 0 := by rw [← h24w]; exact pw_g_eq (c := 26) (k := 5) h23I rfl rfl (by omega) (by omega)
            have he64 : pw_g h56 26 6 = pw_g h25 26 6 := by rw [← h56w]; exact pw_g_ne (by omega)
            have he65 : pw_g h25 26 6 = 0 := by rw [← h25w]; exact pw_g_eq (c := 26) (k := 6) h24I rfl rfl (by omega) (by omega)
            have he66 : pw_g h56 26 7 = 2 := by rw [← h56w]; exact pw_g_eq (c := 26) (k := 7) h25I rfl rfl (by omega) (by omega)
            refine pw_iret E rfl ?_
            exact ⟨h56I, h56F, ⟨by omega, ⟨_, rfl, by omega, by omega⟩⟩⟩
        · intro hc67
          change ¬ (x17 = (0 : Int)) at hc67
          refine pw_ld E (pc' := 43) (st' := [pw_i 3]) rfl (fun _ => rfl) ?_
          refine pw_iret E rfl ?_
          exact ⟨I, E0, ⟨by omega, ⟨_, rfl, by omega, by omega⟩⟩⟩
      · intro hc68
        change ¬ (x9 < (4 : Nat)) at hc68
        refine pw_ld E (pc' := 33) (st' := [pw_i 1]) rfl (fun _ => rfl) ?_
        refine pw_iret E rfl ?_
        exact ⟨I, E0, ⟨by omega, ⟨_, rfl, by omega, by omega⟩⟩⟩
  · intro hc69
    change ¬ (x4 ≠ (4 : Int)) at hc69
    refine pw_ld E (pc' := 9) (st' := [pw_i 0]) rfl (fun _ => rfl) ?_
    refine pw_iret E rfl ?_
    exact ⟨I, E0, ⟨by omega, ⟨_, rfl, by omega, by omega⟩⟩⟩
set_option maxHeartbeats 4000000 in
theorem cm_56_26 {X : List (Nat × List Value)} {d : Nat} {h : pm_H} (hd : 2 ≤ d) (I : pw_I h) (hX : pw_Xk X) (hp0 : pw_g h 24 4 ≠ 2 ∨ 0 ≤ pw_g h 24 5) : pw X d h 56 0 [some (.ref 42), some (.ref 40), some (.ref 46)] [] (fun h' v => pw_I h' ∧ pw_E [26, 34] h h' ∧ ((pw_g h' 26 7 = pw_g h 26 7 ∨ pw_g h' 26 7 = 5)) ∧ (∃ a : Int, v = .inl (some (pw_i a)) ∧ 0 ≤ a ∧ a ≤ 4 ∧ (pw_g h 24 4 ≠ 4 ∨ a = 1))) := by
  have E : pm_ent 56 = some (3, 3, 5, 0, pmc_56) := rfl
  have E0 : pw_E [26, 34] h h := pw_E.rf _ _
  refine pw_ld E (pc' := 1) (st' := [.ref 40]) rfl (fun _ => rfl) ?_
  obtain ⟨f1l, f1h, -⟩ := pw_obj (c := 24) I rfl
  refine pw_call (m' := 107) (As := [.ref 40]) (rest := []) (ls'' := [some (.ref 40)]) (Nat.le_trans (by decide) hd) E rfl (fun _ => pw_iV rfl rfl rfl rfl (pw_cellI f1h rfl)) (rfl : pm_ent 107 = some (1, 1, 9, 0, pmc_107)) rfl rfl (cm_107_24 (pw_dp hd (by decide)) I ) ?_
  rintro u3 v2 ⟨rfl, x4, rfl, hx4a, hx4b, hx4r⟩
  refine ⟨_, rfl, ?_⟩
  show pw X d h 56 4 [some (.ref 42), some (.ref 40), some (.ref 46)] [pw_i x4] _
  change x4 = pw_g h 24 4 at hx4r
  refine pw_ld E (pc' := 5) (st' := [pw_i 2, pw_i x4]) rfl (fun _ => rfl) ?_
  refine pw_if2 E (pc' := 10) rfl (by decide) (by omega) (by omega) (by decide) (by decide) ?_ ?_
  · intro hc5
    change x4 = (2 : Int) at hc5
    refine pw_ld E (pc' := 11) (st' := [.ref 40]) rfl (fun _ => rfl) ?_
    obtain ⟨f6l, f6h, -⟩ := pw_obj (c := 24) I rfl
    refine pw_call (m' := 110) (As := [.ref 40]) (rest := []) (ls'' := [some (.ref 40)]) (Nat.le_trans (by decide) hd) E rfl (fun _ => pw_iV rfl rfl rfl rfl (pw_cellI f6h rfl)) (rfl : pm_ent 110 = some (1, 1, 9, 0, pmc_110)) rfl rfl (cm_110_24 (pw_dp hd (by decide)) I ) ?_
    rintro u8 v7 ⟨rfl, x9, rfl, hx9a, hx9b, hx9r⟩
    refine ⟨_, rfl, ?_⟩
    show pw X d h 56 14 [some (.ref 42), some (.ref 40), some (.ref 46)] [pw_i x9] _
    change x9 = pw_g h 24 5 at hx9r
    refine pw_ld E (pc' := 15) (st' := [.ref 42, pw_i x9]) rfl (fun _ => rfl) ?_
    refine pw_getR (b := 1) I E (c := 26) (k := 2) (pc' := 18) rfl rfl rfl rfl rfl rfl rfl ?_
    refine pw_ld E (pc' := 19) (st' := [.ref 42, .ref 1, pw_i x9]) rfl (fun _ => rfl) ?_
    refine pw_getI2 I E (c := 26) (k := 8) (pc' := 22) rfl rfl rfl rfl rfl rfl (fun hf10a hf10b => ?_)
    obtain ⟨y11l, y11x, y11n, y11r⟩ := hX.1
    refine pw_xald E (pc' := 23) rfl y11x (by decide) y11n y11r (by decide) (by omega) (by omega) rfl (fun x12 hx12a hx12b => ?_)
    refine pw_if2 E (pc' := 28) rfl (by decide) (by omega) (by omega) (by omega) (by omega) ?_ ?_
    · intro hc13
      change x9 ≤ x12 at hc13
      refine pw_ld E (pc' := 29) (st' := [.ref 46]) rfl (fun _ => rfl) ?_
      refine pw_ld E (pc' := 30) (st' := [.ref 42, .ref 46]) rfl (fun _ => rfl) ?_
      refine pw_getI2 I E (c := 26) (k := 8) (pc' := 33) rfl rfl rfl rfl rfl rfl (fun hf14a hf14b => ?_)
      refine pw_ld E (pc' := 34) (st' := [.ref 40, pw_i (pw_g h 26 8), .ref 46]) rfl (fun _ => rfl) ?_
      obtain ⟨f15l, f15h, -⟩ := pw_obj (c := 24) I rfl
      refine pw_call (m' := 110) (As := [.ref 40]) (rest := [pw_i (pw_g h 26 8), .ref 46]) (ls'' := [some (.ref 40)]) (Nat.le_trans (by decide) hd) E rfl (fun _ => pw_iV rfl rfl rfl rfl (pw_cellI f15h rfl)) (rfl : pm_ent 110 = some (1, 1, 9, 0, pmc_110)) rfl rfl (cm_110_24 (pw_dp hd (by decide)) I ) ?_
      rintro u17 v16 ⟨rfl, x18, rfl, hx18a, hx18b, hx18r⟩
      refine ⟨_, rfl, ?_⟩
      show pw X d h 56 37 [some (.ref 42), some (.ref 40), some (.ref 46)] [pw_i x18, pw_i (pw_g h 26 8), .ref 46] _
      change x18 = pw_g h 24 5 at hx18r
      obtain ⟨f19l, f19h, -⟩ := pw_obj (c := 30) I rfl
      refine pw_call (m' := 72) (As := [.ref 46, pw_i (pw_g h 26 8), pw_i x18]) (rest := []) (ls'' := [some (.ref 46), some (pw_i (pw_g h 26 8)), some (pw_i x18)]) (Nat.le_trans (by decide) hd) E rfl (fun _ => pw_iV rfl rfl rfl rfl (pw_cellI f19h rfl)) (rfl : pm_ent 72 = some (3, 3, 7, 4, pmc_72)) rfl rfl (cm_72 (pw_dp hd (by decide)) I (pw_g h 26 8) (by omega) (by omega) (x18) (by omega) (by omega)) ?_
      rintro h20 v21 ⟨h20I, h20E, rfl⟩
      refine ⟨_, rfl, ?_⟩
      have h20F := E0.tr (h20E.wk (W' := [26, 34]) (by first | rfl | simp))
      show pw X d h20 56 40 [some (.ref 42), some (.ref 40), some (.ref 46)] [] _
      refine pw_ld E (pc' := 41) (st' := [.ref 42]) rfl (fun _ => rfl) ?_
      refine pw_ld E (pc' := 42) (st' := [pw_i 5, .ref 42]) rfl (fun _ => rfl) ?_
      refine pw_putI h20I E (c := 26) (k := 7) (pc' := 45) rfl rfl rfl rfl (by omega) (by omega) (by omega) (by omega) rfl rfl ?_
      intro h22I h22E
      generalize h22w : pw_w h20 26 7 (pw_i 5) = h22 at h22I h22E ⊢
      have h22F := h20F.tr (h22E.wk (W' := [26, 34]) (by first | rfl | simp))
      refine pw_ld E (pc' := 46) (st' := [pw_i 0]) rfl (fun _ => rfl) ?_
      have he23 : pw_g h22 26 7 = 5 := by rw [← h22w]; exact pw_g_eq (c := 26) (k := 7) h20I rfl rfl (by omega) (by omega)
      refine pw_iret E rfl ?_
      exact ⟨h22I, h22F, ⟨by omega, ⟨_, rfl, by omega, by omega, by omega⟩⟩⟩
    · intro hc24
      change ¬ (x9 ≤ x12) at hc24
      refine pw_ld E (pc' := 27) (st' := [pw_i 4]) rfl (fun _ => rfl) ?_
      refine pw_iret E rfl ?_
      exact ⟨I, E0, ⟨by omega, ⟨_, rfl, by omega, by omega, by omega⟩⟩⟩
  · intro hc25
    change ¬ (x4 = (2 : Int)) at hc25
    refine pw_ld E (pc' := 9) (st' := [pw_i 1]) rfl (fun _ => rfl) ?_
    refine pw_iret E rfl ?_
    exact ⟨I, E0, ⟨by omega, ⟨_, rfl, by omega, by omega, by omega⟩⟩⟩
set_option maxHeartbeats 4000000 in
theorem cm_46_28 {X : List (Nat × List Value)} {d : Nat} {h : pm_H} (hd : 2 ≤ d) (I : pw_I h) (hX : pw_Xk X)  : pw X d h 46 0 [some (.ref 44), some (.ref 40), some (.ref 46), none] [] (fun h' v => pw_I h' ∧ pw_E [28, 31, 32, 33] h h' ∧ ((pw_g h' 28 7 = pw_g h 28 7 ∨ (pw_g h' 28 4 = 0 ∧ pw_g h' 28 5 = 0 ∧ pw_g h' 28 6 = 0))) ∧ (∃ a : Int, v = .inl (some (pw_i a)) ∧ 0 ≤ a ∧ a ≤ 3)) := by
  have E : pm_ent 46 = some (3, 4, 5, 0, pmc_46) := rfl
  have E0 : pw_E [28, 31, 32, 33] h h := pw_E.rf _ _
  refine pw_ld E (pc' := 1) (st' := [.ref 40]) rfl (fun _ => rfl) ?_
  obtain ⟨f1l, f1h, -⟩ := pw_obj (c := 24) I rfl
  refine pw_call (m' := 107) (As := [.ref 40]) (rest := []) (ls'' := [some (.ref 40)]) (Nat.le_trans (by decide) hd) E rfl (fun _ => pw_iV rfl rfl rfl rfl (pw_cellI f1h rfl)) (rfl : pm_ent 107 = some (1, 1, 9, 0, pmc_107)) rfl rfl (cm_107_24 (pw_dp hd (by decide)) I ) ?_
  rintro u3 v2 ⟨rfl, x4, rfl, hx4a, hx4b, hx4r⟩
  refine ⟨_, rfl, ?_⟩
  show pw X d h 46 4 [some (.ref 44), some (.ref 40), some (.ref 46), none] [pw_i x4] _
  change x4 = pw_g h 24 4 at hx4r
  refine pw_ld E (pc' := 5) (st' := [pw_i 4, pw_i x4]) rfl (fun _ => rfl) ?_
  refine pw_if2 E (pc' := 10) rfl (by decide) (by omega) (by omega) (by decide) (by decide) ?_ ?_
  · intro hc5
    change x4 ≠ (4 : Int) at hc5
    refine pw_ld E (pc' := 11) (st' := [.ref 40]) rfl (fun _ => rfl) ?_
    refine pw_ld E (pc' := 12) (st' := [.ref 44, .ref 40]) rfl (fun _ => rfl) ?_
    refine pw_getR (b := 6) I E (c := 28) (k := 0) (pc' := 15) rfl rfl rfl rfl rfl rfl rfl ?_
    obtain ⟨f6l, f6h, -⟩ := pw_obj (c := 24) I rfl
    refine pw_call (m' := 108) (As := [.ref 40, .ref 6]) (rest := []) (ls'' := [some (.ref 40), some (.ref 6), none, none, none, none, none]) (Nat.le_trans (by decide) hd) E rfl (fun _ => pw_iV rfl rfl rfl rfl (pw_cellI f6h rfl)) (rfl : pm_ent 108 = some (2, 7, 9, 0, pmc_108)) rfl rfl (cm_108_24 (pw_dp hd (by decide)) I hX 6 (by omega) (by omega)) ?_
    rintro u8 v7 ⟨rfl, x9, rfl, hx9a, hx9b, hx9r⟩
    refine ⟨_, rfl, ?_⟩
    show pw X d h 46 18 [some (.ref 44), some (.ref 40), some (.ref 46), none] [pw_i x9] _
    change pw_g h 24 4 = 1 ∨ x9 = -1 at hx9r
    refine pw_istn E (pc' := 19) (ls' := [some (.ref 44), some (.ref 40), some (.ref 46), some (pw_i x9)]) rfl rfl rfl rfl ?_
    refine pw_ld E (pc' := 20) (st' := [pw_i x9]) rfl (fun _ => rfl) ?_
    refine pw_if E (pc' := 32) rfl (by decide) (by omega) (by omega) ?_ ?_
    · intro hc10
      change x9 < (0 : Int) at hc10
      refine pw_ld E (pc' := 33) (st' := [pw_i 1]) rfl (fun _ => rfl) ?_
      refine pw_iret E rfl ?_
      exact ⟨I, E0, ⟨by omega, ⟨_, rfl, by omega, by omega⟩⟩⟩
    · intro hc11
      change ¬ (x9 < (0 : Int)) at hc11
      refine pw_ld E (pc' := 24) (st' := [pw_i x9]) rfl (fun _ => rfl) ?_
      refine pw_ld E (pc' := 25) (st' := [.ref 44, pw_i x9]) rfl (fun _ => rfl) ?_
      refine pw_getR (b := 2) I E (c := 28) (k := 2) (pc' := 28) rfl rfl rfl rfl rfl rfl rfl ?_
      obtain ⟨y12l, y12x, y12n, y12r⟩ := hX.2.1
      refine pw_xlen E (pc' := 29) rfl y12x (by decide) y12n rfl ?_
      refine pw_if2 E (pc' := 34) rfl (by decide) (by omega) (by omega) (by decide) (by decide) ?_ ?_
      · intro hc13
        change x9 < (4 : Nat) at hc13
        refine pw_ld E (pc' := 35) (st' := [.ref 46]) rfl (fun _ => rfl) ?_
        refine pw_ld E (pc' := 36) (st' := [pw_i x9, .ref 46]) rfl (fun _ => rfl) ?_
        obtain ⟨f14l, f14h, -⟩ := pw_obj (c := 30) I rfl
        refine pw_call (m' := 69) (As := [.ref 46, pw_i x9]) (rest := []) (ls'' := [some (.ref 46), some (pw_i x9)]) (Nat.le_trans (by decide) hd) E rfl (fun _ => pw_iV rfl rfl rfl rfl (pw_cellI f14h rfl)) (rfl : pm_ent 69 = some (2, 2, 7, 1, pmc_69)) rfl rfl (cm_69_30 (pw_dp hd (by decide)) I (x9) (by omega) (by omega)) ?_
        rintro u16 v15 ⟨rfl, x17, rfl, hx17a, hx17b⟩
        refine ⟨_, rfl, ?_⟩
        show pw X d h 46 39 [some (.ref 44), some (.ref 40), some (.ref 46), some (pw_i x9)] [pw_i x17] _
        refine pw_if E (pc' := 44) rfl (by decide) (by omega) (by omega) ?_ ?_
        · intro hc18
          change x17 = (0 : Int) at hc18
          refine pw_ld E (pc' := 45) (st' := [.ref 44]) rfl (fun _ => rfl) ?_
          refine pw_ld E (pc' := 46) (st' := [pw_i x9, .ref 44]) rfl (fun _ => rfl) ?_
          refine pw_putI I E (c := 28) (k := 8) (pc' := 49) rfl rfl rfl rfl (by omega) (by omega) (by omega) (by omega) rfl rfl ?_
          intro h19I h19E
          generalize h19w : pw_w h 28 8 (pw_i x9) = h19 at h19I h19E ⊢
          have h19F := E0.tr (h19E.wk (W' := [28, 31, 32, 33]) (by first | rfl | simp))
          refine pw_ld E (pc' := 50) (st' := [.ref 46]) rfl (fun _ => rfl) ?_
          refine pw_ld E (pc' := 51) (st' := [pw_i x9, .ref 46]) rfl (fun _ => rfl) ?_
          obtain ⟨f20l, f20h, -⟩ := pw_obj (c := 30) h19I rfl
          refine pw_call (m' := 70) (As := [.ref 46, pw_i x9]) (rest := []) (ls'' := [some (.ref 46), some (pw_i x9)]) (Nat.le_trans (by decide) hd) E rfl (fun _ => pw_iV rfl rfl rfl rfl (pw_cellI f20h rfl)) (rfl : pm_ent 70 = some (2, 2, 7, 4, pmc_70)) rfl rfl (cm_70_30 (pw_dp hd (by decide)) h19I (x9) (by omega) (by omega)) ?_
          rintro h21 v22 ⟨h21I, h21E, rfl⟩
          refine ⟨_, rfl, ?_⟩
          have h21F := h19F.tr (h21E.wk (W' := [28, 31, 32, 33]) (by first | rfl | simp))
          show pw X d h21 46 54 [some (.ref 44), some (.ref 40), some (.ref 46), some (pw_i x9)] [] _
          refine pw_ld E (pc' := 55) (st' := [.ref 44]) rfl (fun _ => rfl) ?_
          refine pw_ld E (pc' := 56) (st' := [pw_i 0, .ref 44]) rfl (fun _ => rfl) ?_
          refine pw_putI h21I E (c := 28) (k := 4) (pc' := 59) rfl rfl rfl rfl (by omega) (by omega) (by omega) (by omega) rfl rfl ?_
          intro h23I h23E
          generalize h23w : pw_w h21 28 4 (pw_i 0) = h23 at h23I h23E ⊢
          have h23F := h21F.tr (h23E.wk (W' := [28, 31, 32, 33]) (by first | rfl | simp))
          refine pw_ld E (pc' := 60) (st' := [.ref 44]) rfl (fun _ => rfl) ?_
          refine pw_ld E (pc' := 61) (st' := [pw_i 0, .ref 44]) rfl (fun _ => rfl) ?_
          refine pw_putI h23I E (c := 28) (k := 5) (pc' := 64) rfl rfl rfl rfl (by omega) (by omega) (by omega) (by omega) rfl rfl ?_
          intro h24I h24E
          generalize h24w : pw_w h23 28 5 (pw_i 0) = h24 at h24I h24E ⊢
          have h24F := h23F.tr (h24E.wk (W' := [28, 31, 32, 33]) (by first | rfl | simp))
          refine pw_ld E (pc' := 65) (st' := [.ref 44]) rfl (fun _ => rfl) ?_
          refine pw_ld E (pc' := 66) (st' := [pw_i 0, .ref 44]) rfl (fun _ => rfl) ?_
          refine pw_putI h24I E (c := 28) (k := 6) (pc' := 69) rfl rfl rfl rfl (by omega) (by omega) (by omega) (by omega) rfl rfl ?_
          intro h25I h25E
          generalize h25w : pw_w h24 28 6 (pw_i 0) = h25 at h25I h25E ⊢
          have h25F := h24F.tr (h25E.wk (W' := [28, 31, 32, 33]) (by first | rfl | simp))
          refine pw_ld E (pc' := 70) (st' := [.ref 44]) rfl (fun _ => rfl) ?_
          refine pw_getR (b := 2) h25I E (c := 28) (k := 2) (pc' := 73) rfl rfl rfl rfl rfl rfl rfl ?_
          refine pw_ld E (pc' := 74) (st' := [pw_i x9, .ref 2]) rfl (fun _ => rfl) ?_
          obtain ⟨y26l, y26x, y26n, y26r⟩ := hX.2.1
          refine pw_xald E (pc' := 75) rfl y26x (by decide) y26n y26r (by decide) (by omega) (by omega) rfl (fun x27 hx27a hx27b => ?_)
          refine pw_ld E (pc' := 76) (st' := [pw_i ((-1)), pw_i x27]) rfl (fun _ => rfl) ?_
          refine pw_if2 E (pc' := 87) rfl (by decide) (by omega) (by omega) (by decide) (by decide) ?_ ?_
          · intro hc28
            change x27 ≠ ((-1) : Int) at hc28
            refine pw_ld E (pc' := 88) (st' := [.ref 44]) rfl (fun _ => rfl) ?_
            refine pw_ld E (pc' := 89) (st' := [.ref 44, .ref 44]) rfl (fun _ => rfl) ?_
            refine pw_getR (b := 2) h25I E (c := 28) (k := 2) (pc' := 92) rfl rfl rfl rfl rfl rfl rfl ?_
            refine pw_ld E (pc' := 93) (st' := [pw_i x9, .ref 2, .ref 44]) rfl (fun _ => rfl) ?_
            obtain ⟨y29l, y29x, y29n, y29r⟩ := hX.2.1
            refine pw_xald E (pc' := 94) rfl y29x (by decide) y29n y29r (by decide) (by omega) (by omega) rfl (fun x30 hx30a hx30b => ?_)
            refine pw_bip E (pc' := 96) rfl rfl (by decide) ?_
            refine pw_if2 E (pc' := 103) rfl (by decide) (by omega) (by omega) (by decide) (by decide) ?_ ?_
            · intro hc31
              change x30 ≠ ((-2) : Int) at hc31
              refine pw_ld E (pc' := 104) (st' := [pw_i 4, .ref 44]) rfl (fun _ => rfl) ?_
              refine pw_putI h25I E (c := 28) (k := 7) (pc' := 107) rfl rfl rfl rfl (by omega) (by omega) (by omega) (by omega) rfl rfl ?_
              intro h32I h32E
              generalize h32w : pw_w h25 28 7 (pw_i 4) = h32 at h32I h32E ⊢
              have h32F := h25F.tr (h32E.wk (W' := [28, 31, 32, 33]) (by first | rfl | simp))
              refine pw_ld E (pc' := 108) (st' := [pw_i 0]) rfl (fun _ => rfl) ?_
              have he33 : pw_g h32 28 4 = pw_g h25 28 4 := by rw [← h32w]; exact pw_g_ne (by omega)
              have he34 : pw_g h25 28 4 = pw_g h24 28 4 := by rw [← h25w]; exact pw_g_ne (by omega)
              have he35 : pw_g h24 28 4 = pw_g h23 28 4 := by rw [← h24w]; exact pw_g_ne (by omega)
              have he36 : pw_g h23 28 4 = 0 := by rw [← h23w]; exact pw_g_eq (c := 28) (k := 4) h21I rfl rfl (by omega) (by omega)
              have he37 : pw_g h32 28 5 = pw_g h25 28 5 := by rw [← h32w]; exact pw_g_ne (by omega)
              have he38 : pw_g h25 28 5 = pw_g h24 28 5 := by rw [← h25w]; exact pw_g_ne (by omega)
              have he39 : pw_g h24 28 5 = 0 := by rw [← h24w]; exact pw_g_eq (c := 28) (k := 5) h23I rfl rfl (by omega) (by omega)
              have he40 : pw_g h32 28 6 = pw_g h25 28 6 := by rw [← h32w]; exact pw_g_ne (by omega)
              have he41 : pw_g h25 28 6 = 0 := by rw [← h25w]; exact pw_g_eq (c := 28) (k := 6) h24I rfl rfl (by omega) (by omega)
              have he42 : pw_g h32 28 7 = 4 := by rw [← h32w]; exact pw_g_eq (c := 28) (k := 7) h25I rfl rfl (by omega) (by omega)
              refine pw_iret E rfl ?_
              exact ⟨h32I, h32F, ⟨by omega, ⟨_, rfl, by omega, by omega⟩⟩⟩
            · intro hc43
              change ¬ (x30 ≠ ((-2) : Int)) at hc43
              refine pw_ld E (pc' := 100) (st' := [pw_i 1, .ref 44]) rfl (fun _ => rfl) ?_
              refine pw_goto E (pc' := 104) rfl (by decide) ?_
              refine pw_putI h25I E (c := 28) (k := 7) (pc' := 107) rfl rfl rfl rfl (by omega) (by omega) (by omega) (by omega) rfl rfl ?_
              intro h44I h44E
              generalize h44w : pw_w h25 28 7 (pw_i 1) = h44 at h44I h44E ⊢
              have h44F := h25F.tr (h44E.wk (W' := [28, 31, 32, 33]) (by first | rfl | simp))
              refine pw_ld E (pc' := 108) (st' := [pw_i 0]) rfl (fun _ => rfl) ?_
              have he45 : pw_g h44 28 4 = pw_g h25 28 4 := by rw [← h44w]; exact pw_g_ne (by omega)
              have he46 : pw_g h25 28 4 = pw_g h24 28 4 := by rw [← h25w]; exact pw_g_ne (by omega)
              have he47 : pw_g h24 28 4 = pw_g h23 28 4 := by rw [← h24w]; exact pw_g_ne (by omega)
              have he48 : pw_g h23 28 4 = 0 := by rw [← h23w]; exact pw_g_eq (c := 28) (k := 4) h21I rfl rfl (by omega) (by omega)
              have he49 : pw_g h44 28 5 = pw_g h25 28 5 := by rw [← h44w]; exact pw_g_ne (by omega)
              have he50 : pw_g h25 28 5 = pw_g h24 28 5 := by rw [← h25w]; exact pw_g_ne (by omega)
              have he51 : pw_g h24 28 5 = 0 := by rw [← h24w]; exact pw_g_eq (c := 28) (k := 5) h23I rfl rfl (by omega) (by omega)
              have he52 : pw_g h44 28 6 = pw_g h25 28 6 := by rw [← h44w]; exact pw_g_ne (by omega)
              have he53 : pw_g h25 28 6 = 0 := by rw [← h25w]; exact pw_g_eq (c := 28) (k := 6) h24I rfl rfl (by omega) (by omega)
              have he54 : pw_g h44 28 7 = 1 := by rw [← h44w]; exact pw_g_eq (c := 28) (k := 7) h25I rfl rfl (by omega) (by omega)
              refine pw_iret E rfl ?_
              exact ⟨h44I, h44F, ⟨by omega, ⟨_, rfl, by omega, by omega⟩⟩⟩
          · intro hc55
            change ¬ (x27 ≠ ((-1) : Int)) at hc55
            refine pw_ld E (pc' := 80) (st' := [.ref 44]) rfl (fun _ => rfl) ?_
            refine pw_ld E (pc' := 81) (st' := [pw_i 2, .ref 44]) rfl (fun _ => rfl) ?_
            refine pw_putI h25I E (c := 28) (k := 7) (pc' := 84) rfl rfl rfl rfl (by omega) (by omega) (by omega) (by omega) rfl rfl ?_
            intro h56I h56E
            generalize h56w : pw_w h25 28 7 (pw_i 2) = h56 at h56I h56E ⊢
            have h56F := h25F.tr (h56E.wk (W' := [28, 31, 32, 33]) (by first | rfl | simp))
            refine pw_goto E (pc' := 107) rfl (by decide) ?_
            refine pw_ld E (pc' := 108) (st' := [pw_i 0]) rfl (fun _ => rfl) ?_
            have he57 : pw_g h56 28 4 = pw_g h25 28 4 := by rw [← h56w]; exact pw_g_ne (by omega)
            have he58 : pw_g h25 28 4 = pw_g h24 28 4 := by rw [← h25w]; exact pw_g_ne (by omega)
            have he59 : pw_g h24 28 4 = pw_g h23 28 4 := by rw [← h24w]; exact pw_g_ne (by omega)
            have he60 : pw_g h23 28 4 = 0 := by rw [← h23w]; exact pw_g_eq (c := 28) (k := 4) h21I rfl rfl (by omega) (by omega)
            have he61 : pw_g h56 28 5 = pw_g h25 28 5 := by rw [← h56w]; exact pw_g_ne (by omega)
            have he62 : pw_g h25 28 5 = pw_g h24 28 5 := by rw [← h25w]; exact pw_g_ne (by omega)
            have he63 : pw_g h24 28 5 = 0 := by rw [← h24w]; exact pw_g_eq (c := 28) (k := 5) h23I rfl rfl (by omega) (by omega)
            have he64 : pw_g h56 28 6 = pw_g h25 28 6 := by rw [← h56w]; exact pw_g_ne (by omega)
            have he65 : pw_g h25 28 6 = 0 := by rw [← h25w]; exact pw_g_eq (c := 28) (k := 6) h24I rfl rfl (by omega) (by omega)
            have he66 : pw_g h56 28 7 = 2 := by rw [← h56w]; exact pw_g_eq (c := 28) (k := 7) h25I rfl rfl (by omega) (by omega)
            refine pw_iret E rfl ?_
            exact ⟨h56I, h56F, ⟨by omega, ⟨_, rfl, by omega, by omega⟩⟩⟩
        · intro hc67
          change ¬ (x17 = (0 : Int)) at hc67
          refine pw_ld E (pc' := 43) (st' := [pw_i 3]) rfl (fun _ => rfl) ?_
          refine pw_iret E rfl ?_
          exact ⟨I, E0, ⟨by omega, ⟨_, rfl, by omega, by omega⟩⟩⟩
      · intro hc68
        change ¬ (x9 < (4 : Nat)) at hc68
        refine pw_ld E (pc' := 33) (st' := [pw_i 1]) rfl (fun _ => rfl) ?_
        refine pw_iret E rfl ?_
        exact ⟨I, E0, ⟨by omega, ⟨_, rfl, by omega, by omega⟩⟩⟩
  · intro hc69
    change ¬ (x4 ≠ (4 : Int)) at hc69
    refine pw_ld E (pc' := 9) (st' := [pw_i 0]) rfl (fun _ => rfl) ?_
    refine pw_iret E rfl ?_
    exact ⟨I, E0, ⟨by omega, ⟨_, rfl, by omega, by omega⟩⟩⟩
set_option maxHeartbeats 4000000 in
theorem cm_56_28 {X : List (Nat × List Value)} {d : Nat} {h : pm_H} (hd : 2 ≤ d) (I : pw_I h) (hX : pw_Xk X) (hp0 : pw_g h 24 4 ≠ 2 ∨ 0 ≤ pw_g h 24 5) : pw X d h 56 0 [some (.ref 44), some (.ref 40), some (.ref 46)] [] (fun h' v => pw_I h' ∧ pw_E [28, 34] h h' ∧ ((pw_g h' 28 7 = pw_g h 28 7 ∨ pw_g h' 28 7 = 5)) ∧ (∃ a : Int, v = .inl (some (pw_i a)) ∧ 0 ≤ a ∧ a ≤ 4 ∧ (pw_g h 24 4 ≠ 4 ∨ a = 1))) := by
  have E : pm_ent 56 = some (3, 3, 5, 0, pmc_56) := rfl
  have E0 : pw_E [28, 34] h h := pw_E.rf _ _
  refine pw_ld E (pc' := 1) (st' := [.ref 40]) rfl (fun _ => rfl) ?_
  obtain ⟨f1l, f1h, -⟩ := pw_obj (c := 24) I rfl
  refine pw_call (m' := 107) (As := [.ref 40]) (rest := []) (ls'' := [some (.ref 40)]) (Nat.le_trans (by decide) hd) E rfl (fun _ => pw_iV rfl rfl rfl rfl (pw_cellI f1h rfl)) (rfl : pm_ent 107 = some (1, 1, 9, 0, pmc_107)) rfl rfl (cm_107_24 (pw_dp hd (by decide)) I ) ?_
  rintro u3 v2 ⟨rfl, x4, rfl, hx4a, hx4b, hx4r⟩
  refine ⟨_, rfl, ?_⟩
  show pw X d h 56 4 [some (.ref 44), some (.ref 40), some (.ref 46)] [pw_i x4] _
  change x4 = pw_g h 24 4 at hx4r
  refine pw_ld E (pc' := 5) (st' := [pw_i 2, pw_i x4]) rfl (fun _ => rfl) ?_
  refine pw_if2 E (pc' := 10) rfl (by decide) (by omega) (by omega) (by decide) (by decide) ?_ ?_
  · intro hc5
    change x4 = (2 : Int) at hc5
    refine pw_ld E (pc' := 11) (st' := [.ref 40]) rfl (fun _ => rfl) ?_
    obtain ⟨f6l, f6h, -⟩ := pw_obj (c := 24) I rfl
    refine pw_call (m' := 110) (As := [.ref 40]) (rest := []) (ls'' := [some (.ref 40)]) (Nat.le_trans (by decide) hd) E rfl (fun _ => pw_iV rfl rfl rfl rfl (pw_cellI f6h rfl)) (rfl : pm_ent 110 = some (1, 1, 9, 0, pmc_110)) rfl rfl (cm_110_24 (pw_dp hd (by decide)) I ) ?_
    rintro u8 v7 ⟨rfl, x9, rfl, hx9a, hx9b, hx9r⟩
    refine ⟨_, rfl, ?_⟩
    show pw X d h 56 14 [some (.ref 44), some (.ref 40), some (.ref 46)] [pw_i x9] _
    change x9 = pw_g h 24 5 at hx9r
    refine pw_ld E (pc' := 15) (st' := [.ref 44, pw_i x9]) rfl (fun _ => rfl) ?_
    refine pw_getR (b := 2) I E (c := 28) (k := 2) (pc' := 18) rfl rfl rfl rfl rfl rfl rfl ?_
    refine pw_ld E (pc' := 19) (st' := [.ref 44, .ref 2, pw_i x9]) rfl (fun _ => rfl) ?_
    refine pw_getI2 I E (c := 28) (k := 8) (pc' := 22) rfl rfl rfl rfl rfl rfl (fun hf10a hf10b => ?_)
    obtain ⟨y11l, y11x, y11n, y11r⟩ := hX.2.1
    refine pw_xald E (pc' := 23) rfl y11x (by decide) y11n y11r (by decide) (by omega) (by omega) rfl (fun x12 hx12a hx12b => ?_)
    refine pw_if2 E (pc' := 28) rfl (by decide) (by omega) (by omega) (by omega) (by omega) ?_ ?_
    · intro hc13
      change x9 ≤ x12 at hc13
      refine pw_ld E (pc' := 29) (st' := [.ref 46]) rfl (fun _ => rfl) ?_
      refine pw_ld E (pc' := 30) (st' := [.ref 44, .ref 46]) rfl (fun _ => rfl) ?_
      refine pw_getI2 I E (c := 28) (k := 8) (pc' := 33) rfl rfl rfl rfl rfl rfl (fun hf14a hf14b => ?_)
      refine pw_ld E (pc' := 34) (st' := [.ref 40, pw_i (pw_g h 28 8), .ref 46]) rfl (fun _ => rfl) ?_
      obtain ⟨f15l, f15h, -⟩ := pw_obj (c := 24) I rfl
      refine pw_call (m' := 110) (As := [.ref 40]) (rest := [pw_i (pw_g h 28 8), .ref 46]) (ls'' := [some (.ref 40)]) (Nat.le_trans (by decide) hd) E rfl (fun _ => pw_iV rfl rfl rfl rfl (pw_cellI f15h rfl)) (rfl : pm_ent 110 = some (1, 1, 9, 0, pmc_110)) rfl rfl (cm_110_24 (pw_dp hd (by decide)) I ) ?_
      rintro u17 v16 ⟨rfl, x18, rfl, hx18a, hx18b, hx18r⟩
      refine ⟨_, rfl, ?_⟩
      show pw X d h 56 37 [some (.ref 44), some (.ref 40), some (.ref 46)] [pw_i x18, pw_i (pw_g h 28 8), .ref 46] _
      change x18 = pw_g h 24 5 at hx18r
      obtain ⟨f19l, f19h, -⟩ := pw_obj (c := 30) I rfl
      refine pw_call (m' := 72) (As := [.ref 46, pw_i (pw_g h 28 8), pw_i x18]) (rest := []) (ls'' := [some (.ref 46), some (pw_i (pw_g h 28 8)), some (pw_i x18)]) (Nat.le_trans (by decide) hd) E rfl (fun _ => pw_iV rfl rfl rfl rfl (pw_cellI f19h rfl)) (rfl : pm_ent 72 = some (3, 3, 7, 4, pmc_72)) rfl rfl (cm_72 (pw_dp hd (by decide)) I (pw_g h 28 8) (by omega) (by omega) (x18) (by omega) (by omega)) ?_
      rintro h20 v21 ⟨h20I, h20E, rfl⟩
      refine ⟨_, rfl, ?_⟩
      have h20F := E0.tr (h20E.wk (W' := [28, 34]) (by first | rfl | simp))
      show pw X d h20 56 40 [some (.ref 44), some (.ref 40), some (.ref 46)] [] _
      refine pw_ld E (pc' := 41) (st' := [.ref 44]) rfl (fun _ => rfl) ?_
      refine pw_ld E (pc' := 42) (st' := [pw_i 5, .ref 44]) rfl (fun _ => rfl) ?_
      refine pw_putI h20I E (c := 28) (k := 7) (pc' := 45) rfl rfl rfl rfl (by omega) (by omega) (by omega) (by omega) rfl rfl ?_
      intro h22I h22E
      generalize h22w : pw_w h20 28 7 (pw_i 5) = h22 at h22I h22E ⊢
      have h22F := h20F.tr (h22E.wk (W' := [28, 34]) (by first | rfl | simp))
      refine pw_ld E (pc' := 46) (st' := [pw_i 0]) rfl (fun _ => rfl) ?_
      have he23 : pw_g h22 28 7 = 5 := by rw [← h22w]; exact pw_g_eq (c := 28) (k := 7) h20I rfl rfl (by omega) (by omega)
      refine pw_iret E rfl ?_
      exact ⟨h22I, h22F, ⟨by omega, ⟨_, rfl, by omega, by omega, by omega⟩⟩⟩
    · intro hc24
      change ¬ (x9 ≤ x12) at hc24
      refine pw_ld E (pc' := 27) (st' := [pw_i 4]) rfl (fun _ => rfl) ?_
      refine pw_iret E rfl ?_
      exact ⟨I, E0, ⟨by omega, ⟨_, rfl, by omega, by omega, by omega⟩⟩⟩
  · intro hc25
    change ¬ (x4 = (2 : Int)) at hc25
    refine pw_ld E (pc' := 9) (st' := [pw_i 1]) rfl (fun _ => rfl) ?_
    refine pw_iret E rfl ?_
    exact ⟨I, E0, ⟨by omega, ⟨_, rfl, by omega, by omega, by omega⟩⟩⟩
end
section
/-! the Readers: a token (printed by wip/tool/reader7.py) -/
/-- what holds of a Reader behind T tokens -/
def pw_Sr (c c1 : Nat) (h : pm_H) (T : Int) : Prop := (pw_g h 30 1 = 0 ∨ pw_g h 30 1 + 1 ≤ T) ∧ (1 ≤ pw_g h c 7 ∧ pw_g h c 7 ≤ 3 → pw_P c c1 h (T - 1))
theorem pw_SrP {c c1 : Nat} {h : pm_H} {T T' : Int} (P : pw_P c c1 h T') (ht : T' ≤ T) (h4 : 0 ≤ pw_g h c 4) : pw_Sr c c1 h (T + 1) := ⟨Or.inr (by have := P.2.2; omega), fun _ => P.wk (by omega)⟩
theorem pw_Sr0 {c c1 : Nat} {h h' : pm_H} {T : Int} (S : pw_Sr c c1 h T) (hl : pw_g h' 30 1 = pw_g h 30 1) (h0 : ¬ (1 ≤ pw_g h' c 7 ∧ pw_g h' c 7 ≤ 3)) : pw_Sr c c1 h' (T + 1) := ⟨by have := S.1; omega, fun hz => absurd hz h0⟩
theorem pw_Sr46 {c c1 : Nat} {h h' : pm_H} {T : Int} (S : pw_Sr c c1 h T) (hT : 0 ≤ T) (hl : pw_g h' 30 1 = pw_g h 30 1) (h0 : pw_g h c 7 = 0) (hp : pw_g h' c 7 = pw_g h c 7 ∨ (pw_g h' c 4 = 0 ∧ pw_g h' c 5 = 0 ∧ pw_g h' c 6 = 0)) : pw_Sr c c1 h' (T + 1) := by
  rcases hp with hp | ⟨z4, z5, z6⟩
  · exact pw_Sr0 S hl (by omega)
  · refine pw_SrP (T' := T) ⟨?_, by omega, by have := S.1; omega⟩ (Int.le_refl _) (by omega)
    unfold pw_J
    rw [z4, z5, z6]
    exact pw_Jw0 _
set_option maxHeartbeats 4000000 in
theorem cm_45_26 {X : List (Nat × List Value)} {d : Nat} {h : pm_H} (hd : 5 ≤ d) (I : pw_I h) (hX : pw_Xk X) (hR : pw_Xr X) {T : Int} (hT : 0 ≤ T) (hv : pw_g h 24 4 ≠ 2 ∨ 0 ≤ pw_g h 24 5) (S : pw_Sr 26 27 h T) : pw X d h 45 0 [some (.ref 42), some (.ref 40), some (.ref 46)] [] (fun h' v => pw_I h' ∧ pw_E [26, 27, 30, 31, 32, 33, 34, 36] h h' ∧ pw_Sr 26 27 h' (T + 1) ∧ ∃ a : Int, v = .inl (some (pw_i a)) ∧ 0 ≤ a ∧ a ≤ 5 ∧ (pw_g h 24 4 ≠ 4 ∨ a ≠ 0 ∨ pw_g h' 30 1 = pw_g h 30 1)) := by
  have E : pm_ent 45 = some (3, 3, 5, 0, pmc_45) := rfl
  have E0 : pw_E [26, 27, 30, 31, 32, 33, 34, 36] h h := pw_E.rf _ _
  refine pw_ld E (pc' := 1) (st' := [.ref 42]) rfl (fun _ => rfl) ?_
  refine pw_getI2 I E (c := 26) (k := 7) (pc' := 4) rfl rfl rfl rfl rfl rfl (fun hf1a hf1b => ?_)
  rcases (by omega : pw_g h 26 7 = 0 ∨ pw_g h 26 7 = 1 ∨ pw_g h 26 7 = 2 ∨ pw_g h 26 7 = 3 ∨ pw_g h 26 7 = 4 ∨ (pw_g h 26 7 < 0 ∨ 4 < pw_g h 26 7)) with hs2 | hs2 | hs2 | hs2 | hs2 | hs2
  · refine pw_tswJ (o := 36) E (pc' := 40) rfl (by omega) (by omega) (by omega) (by rw [hs2]; rfl) (by decide) ?_
    refine pw_ld E (pc' := 41) (st' := [.ref 42]) rfl (fun _ => rfl) ?_
    refine pw_ld E (pc' := 42) (st' := [.ref 40, .ref 42]) rfl (fun _ => rfl) ?_
    refine pw_ld E (pc' := 43) (st' := [.ref 46, .ref 40, .ref 42]) rfl (fun _ => rfl) ?_
    obtain ⟨f3l, f3h, -⟩ := pw_obj (c := 26) I rfl
    refine pw_call (m' := 46) (As := [.ref 42, .ref 40, .ref 46]) (rest := []) (ls'' := [some (.ref 42), some (.ref 40), some (.ref 46), none]) (Nat.le_trans (by decide) hd) E rfl (fun _ => pw_iV rfl rfl rfl rfl (pw_cellI f3h rfl)) (rfl : pm_ent 46 = some (3, 4, 5, 0, pmc_46)) rfl rfl (cm_46_26 (pw_dp hd (by decide)) I hX ) ?_
    rintro h4 v5 ⟨h4I, h4E, hp, x6, rfl, hx6a, hx6b⟩
    have hl : pw_g h4 30 1 = pw_g h 30 1 := pw_Eg (c := 30) I h4E rfl rfl 1
    refine ⟨_, rfl, ?_⟩
    have h4F := E0.tr (h4E.wk (W' := [26, 27, 30, 31, 32, 33, 34, 36]) (by first | rfl | simp))
    show pw X d h4 45 46 [some (.ref 42), some (.ref 40), some (.ref 46)] [pw_i x6] _
    refine pw_iret E rfl ?_
    exact ⟨h4I, h4F, pw_Sr46 S hT hl hs2 hp, ⟨_, rfl, by omega, by omega, Or.inr (Or.inr hl)⟩⟩
  · refine pw_tswJ (o := 43) E (pc' := 47) rfl (by omega) (by omega) (by omega) (by rw [hs2]; rfl) (by decide) ?_
    refine pw_ld E (pc' := 48) (st' := [.ref 42]) rfl (fun _ => rfl) ?_
    refine pw_ld E (pc' := 49) (st' := [pw_i 2, .ref 42]) rfl (fun _ => rfl) ?_
    refine pw_putI I E (c := 26) (k := 7) (pc' := 52) rfl rfl rfl rfl (by omega) (by omega) (by omega) (by omega) rfl rfl ?_
    intro h7I h7E
    generalize h7w : pw_w h 26 7 (pw_i 2) = h7 at h7I h7E ⊢
    have hn : ∀ c' k', ¬ (26 = c' ∧ 7 = k') → pw_g h7 c' k' = pw_g h c' k' := fun c' k' hn => by rw [← h7w]; exact pw_g_ne hn
    have hx7 : pw_g h7 26 7 = 2 := by rw [← h7w]; exact pw_g_eq (c := 26) (k := 7) I rfl rfl (by omega) (by omega)
    have hk := hn 24 4 (by decide)
    have h4 := (pw_gI (c := 26) (k := 4) h7I rfl rfl).1
    have P7 := pw_Pof (S.2 (by omega)) (hn 26 4 (by decide)) (hn 26 5 (by decide)) (hn 26 6 (by decide)) (fun j => hn 27 j (by omega)) (hn 30 1 (by decide))
    have h7F := E0.tr (h7E.wk (W' := [26, 27, 30, 31, 32, 33, 34, 36]) (by first | rfl | simp))
    refine pw_ld E (pc' := 53) (st' := [.ref 40]) rfl (fun _ => rfl) ?_
    refine pw_ld E (pc' := 55) (st' := [.ref 9, .ref 40]) rfl (fun _ => rfl) ?_
    obtain ⟨f8l, f8h, -⟩ := pw_obj (c := 24) h7I rfl
    refine pw_call (m' := 108) (As := [.ref 40, .ref 9]) (rest := []) (ls'' := [some (.ref 40), some (.ref 9), none, none, none, none, none]) (Nat.le_trans (by decide) hd) E rfl (fun _ => pw_iV rfl rfl rfl rfl (pw_cellI f8h rfl)) (rfl : pm_ent 108 = some (2, 7, 9, 0, pmc_108)) rfl rfl (cm_108_24 (pw_dp hd (by decide)) h7I hX 9 (by omega) (by omega)) ?_
    rintro u10 v9 ⟨rfl, x11, rfl, hx11a, hx11b, hz⟩
    refine ⟨_, rfl, ?_⟩
    show pw X d h7 45 58 [some (.ref 42), some (.ref 40), some (.ref 46)] [pw_i x11] _
    refine pw_if E (pc' := 65) rfl (by decide) (by omega) (by omega) ?_ ?_
    · intro hc12
      change x11 ≠ (0 : Int) at hc12
      refine pw_ld E (pc' := 66) (st' := [pw_i 1]) rfl (fun _ => rfl) ?_
      refine pw_iret E rfl ?_
      exact ⟨h7I, h7F, pw_SrP P7 (by omega) h4, ⟨_, rfl, by omega, by omega, Or.inr (Or.inr (hn 30 1 (by decide)))⟩⟩
    · intro hc13
      change ¬ (x11 ≠ (0 : Int)) at hc13
      refine pw_ld E (pc' := 62) (st' := [pw_i 0]) rfl (fun _ => rfl) ?_
      refine pw_goto E (pc' := 66) rfl (by decide) ?_
      refine pw_iret E rfl ?_
      exact ⟨h7I, h7F, pw_SrP P7 (by omega) h4, ⟨_, rfl, by omega, by omega, Or.inr (Or.inr (hn 30 1 (by decide)))⟩⟩
  · refine pw_tswJ (o := 63) E (pc' := 67) rfl (by omega) (by omega) (by omega) (by rw [hs2]; rfl) (by decide) ?_
    refine pw_ld E (pc' := 68) (st' := [.ref 42]) rfl (fun _ => rfl) ?_
    refine pw_ld E (pc' := 69) (st' := [.ref 40, .ref 42]) rfl (fun _ => rfl) ?_
    refine pw_ld E (pc' := 70) (st' := [.ref 46, .ref 40, .ref 42]) rfl (fun _ => rfl) ?_
    obtain ⟨f14l, f14h, -⟩ := pw_obj (c := 26) I rfl
    refine pw_call (m' := 47) (As := [.ref 42, .ref 40, .ref 46]) (rest := []) (ls'' := [some (.ref 42), some (.ref 40), some (.ref 46), none, none, none, none]) (Nat.le_trans (by decide) hd) E rfl (fun _ => pw_iV rfl rfl rfl rfl (pw_cellI f14h rfl)) (rfl : pm_ent 47 = some (3, 7, 5, 0, pmc_47)) rfl rfl (cm_47_26 (pw_dp hd (by decide)) I hX (S.2 (by omega))) ?_
    rintro h15 v16 ⟨h15I, h15E, hp, x17, rfl, hx17a, hx17b, hz⟩
    have h4 := (pw_gI (c := 26) (k := 4) h15I rfl rfl).1
    refine ⟨_, rfl, ?_⟩
    have h15F := E0.tr (h15E.wk (W' := [26, 27, 30, 31, 32, 33, 34, 36]) (by first | rfl | simp))
    show pw X d h15 45 73 [some (.ref 42), some (.ref 40), some (.ref 46)] [pw_i x17] _
    refine pw_iret E rfl ?_
    exact ⟨h15I, h15F, pw_SrP hp (by omega) h4, ⟨_, rfl, by omega, by omega, by omega⟩⟩
  · refine pw_tswJ (o := 70) E (pc' := 74) rfl (by omega) (by omega) (by omega) (by rw [hs2]; rfl) (by decide) ?_
    refine pw_ld E (pc' := 75) (st' := [.ref 42]) rfl (fun _ => rfl) ?_
    refine pw_ld E (pc' := 76) (st' := [.ref 40, .ref 42]) rfl (fun _ => rfl) ?_
    refine pw_ld E (pc' := 77) (st' := [.ref 46, .ref 40, .ref 42]) rfl (fun _ => rfl) ?_
    obtain ⟨f18l, f18h, -⟩ := pw_obj (c := 26) I rfl
    refine pw_call (m' := 50) (As := [.ref 42, .ref 40, .ref 46]) (rest := []) (ls'' := [some (.ref 42), some (.ref 40), some (.ref 46), none, none]) (Nat.le_trans (by decide) hd) E rfl (fun _ => pw_iV rfl rfl rfl rfl (pw_cellI f18h rfl)) (rfl : pm_ent 50 = some (3, 5, 5, 0, pmc_50)) rfl rfl (cm_50_26 (pw_dp hd (by decide)) I hX hR (S.2 (by omega))) ?_
    rintro h19 v20 ⟨h19I, h19E, hp, x21, rfl, hx21a, hx21b, hz⟩
    have h4 := (pw_gI (c := 26) (k := 4) h19I rfl rfl).1
    refine ⟨_, rfl, ?_⟩
    have h19F := E0.tr (h19E.wk (W' := [26, 27, 30, 31, 32, 33, 34, 36]) (by first | rfl | simp))
    show pw X d h19 45 80 [some (.ref 42), some (.ref 40), some (.ref 46)] [pw_i x21] _
    refine pw_iret E rfl ?_
    exact ⟨h19I, h19F, pw_SrP hp (by omega) h4, ⟨_, rfl, by omega, by omega, by omega⟩⟩
  · refine pw_tswJ (o := 77) E (pc' := 81) rfl (by omega) (by omega) (by omega) (by rw [hs2]; rfl) (by decide) ?_
    refine pw_ld E (pc' := 82) (st' := [.ref 42]) rfl (fun _ => rfl) ?_
    refine pw_ld E (pc' := 83) (st' := [.ref 40, .ref 42]) rfl (fun _ => rfl) ?_
    refine pw_ld E (pc' := 84) (st' := [.ref 46, .ref 40, .ref 42]) rfl (fun _ => rfl) ?_
    obtain ⟨f22l, f22h, -⟩ := pw_obj (c := 26) I rfl
    refine pw_call (m' := 56) (As := [.ref 42, .ref 40, .ref 46]) (rest := []) (ls'' := [some (.ref 42), some (.ref 40), some (.ref 46)]) (Nat.le_trans (by decide) hd) E rfl (fun _ => pw_iV rfl rfl rfl rfl (pw_cellI f22h rfl)) (rfl : pm_ent 56 = some (3, 3, 5, 0, pmc_56)) rfl rfl (cm_56_26 (pw_dp hd (by decide)) I hX hv) ?_
    rintro h23 v24 ⟨h23I, h23E, hp, x25, rfl, hx25a, hx25b, hz⟩
    have hl : pw_g h23 30 1 = pw_g h 30 1 := pw_Eg (c := 30) I h23E rfl rfl 1
    refine ⟨_, rfl, ?_⟩
    have h23F := E0.tr (h23E.wk (W' := [26, 27, 30, 31, 32, 33, 34, 36]) (by first | rfl | simp))
    show pw X d h23 45 87 [some (.ref 42), some (.ref 40), some (.ref 46)] [pw_i x25] _
    refine pw_iret E rfl ?_
    exact ⟨h23I, h23F, pw_Sr0 S hl (by omega), ⟨_, rfl, by omega, by omega, Or.inr (Or.inr hl)⟩⟩
  · refine pw_tswD E (pc' := 88) rfl (by omega) (by omega) hs2 (by decide) ?_
    refine pw_ld E (pc' := 89) (st' := [.ref 42]) rfl (fun _ => rfl) ?_
    refine pw_ld E (pc' := 90) (st' := [pw_i 0, .ref 42]) rfl (fun _ => rfl) ?_
    refine pw_putI I E (c := 26) (k := 7) (pc' := 93) rfl rfl rfl rfl (by omega) (by omega) (by omega) (by omega) rfl rfl ?_
    intro h26I h26E
    generalize h26w : pw_w h 26 7 (pw_i 0) = h26 at h26I h26E ⊢
    have hn : ∀ c' k', ¬ (26 = c' ∧ 7 = k') → pw_g h26 c' k' = pw_g h c' k' := fun c' k' hn => by rw [← h26w]; exact pw_g_ne hn
    have hx7 : pw_g h26 26 7 = 0 := by rw [← h26w]; exact pw_g_eq (c := 26) (k := 7) I rfl rfl (by omega) (by omega)
    have hk := hn 24 4 (by decide)
    have h26F := E0.tr (h26E.wk (W' := [26, 27, 30, 31, 32, 33, 34, 36]) (by first | rfl | simp))
    refine pw_ld E (pc' := 94) (st' := [.ref 40]) rfl (fun _ => rfl) ?_
    refine pw_bip E (pc' := 96) rfl rfl (by decide) ?_
    obtain ⟨f27l, f27h, -⟩ := pw_obj (c := 24) h26I rfl
    refine pw_call (m' := 109) (As := [.ref 40, pw_i 59]) (rest := []) (ls'' := [some (.ref 40), some (pw_i 59)]) (Nat.le_trans (by decide) hd) E rfl (fun _ => pw_iV rfl rfl rfl rfl (pw_cellI f27h rfl)) (rfl : pm_ent 109 = some (2, 2, 9, 1, pmc_109)) rfl rfl (cm_109_24 (pw_dp hd (by decide)) h26I (59) (by omega) (by omega)) ?_
    rintro u29 v28 ⟨rfl, x30, rfl, hx30a, hx30b, hz⟩
    refine ⟨_, rfl, ?_⟩
    show pw X d h26 45 99 [some (.ref 42), some (.ref 40), some (.ref 46)] [pw_i x30] _
    refine pw_if E (pc' := 106) rfl (by decide) (by omega) (by omega) ?_ ?_
    · intro hc31
      change x30 = (0 : Int) at hc31
      refine pw_ld E (pc' := 107) (st' := [pw_i 1]) rfl (fun _ => rfl) ?_
      refine pw_iret E rfl ?_
      exact ⟨h26I, h26F, pw_Sr0 S (hn 30 1 (by decide)) (by omega), ⟨_, rfl, by omega, by omega, Or.inr (Or.inr (hn 30 1 (by decide)))⟩⟩
    · intro hc32
      change ¬ (x30 = (0 : Int)) at hc32
      refine pw_ld E (pc' := 103) (st' := [pw_i 0]) rfl (fun _ => rfl) ?_
      refine pw_goto E (pc' := 107) rfl (by decide) ?_
      refine pw_iret E rfl ?_
      exact ⟨h26I, h26F, pw_Sr0 S (hn 30 1 (by decide)) (by omega), ⟨_, rfl, by omega, by omega, Or.inr (Or.inr (hn 30 1 (by decide)))⟩⟩
set_option maxHeartbeats 4000000 in
theorem cm_45_28 {X : List (Nat × List Value)} {d : Nat} {h : pm_H} (hd : 5 ≤ d) (I : pw_I h) (hX : pw_Xk X) (hR : pw_Xr X) {T : Int} (hT : 0 ≤ T) (hv : pw_g h 24 4 ≠ 2 ∨ 0 ≤ pw_g h 24 5) (S : pw_Sr 28 29 h T) : pw X d h 45 0 [some (.ref 44), some (.ref 40), some (.ref 46)] [] (fun h' v => pw_I h' ∧ pw_E [28, 29, 30, 31, 32, 33, 34, 36] h h' ∧ pw_Sr 28 29 h' (T + 1) ∧ ∃ a : Int, v = .inl (some (pw_i a)) ∧ 0 ≤ a ∧ a ≤ 5 ∧ (pw_g h 24 4 ≠ 4 ∨ a ≠ 0 ∨ pw_g h' 30 1 = pw_g h 30 1)) := by
  have E : pm_ent 45 = some (3, 3, 5, 0, pmc_45) := rfl
  have E0 : pw_E [28, 29, 30, 31, 32, 33, 34, 36] h h := pw_E.rf _ _
  refine pw_ld E (pc' := 1) (st' := [.ref 44]) rfl (fun _ => rfl) ?_
  refine pw_getI2 I E (c := 28) (k := 7) (pc' := 4) rfl rfl rfl rfl rfl rfl (fun hf1a hf1b => ?_)
  rcases (by omega : pw_g h 28 7 = 0 ∨ pw_g h 28 7 = 1 ∨ pw_g h 28 7 = 2 ∨ pw_g h 28 7 = 3 ∨ pw_g h 28 7 = 4 ∨ (pw_g h 28 7 < 0 ∨ 4 < pw_g h 28 7)) with hs2 | hs2 | hs2 | hs2 | hs2 | hs2
  · refine pw_tswJ (o := 36) E (pc' := 40) rfl (by omega) (by omega) (by omega) (by rw [hs2]; rfl) (by decide) ?_
    refine pw_ld E (pc' := 41) (st' := [.ref 44]) rfl (fun _ => rfl) ?_
    refine pw_ld E (pc' := 42) (st' := [.ref 40, .ref 44]) rfl (fun _ => rfl) ?_
    refine pw_ld E (pc' := 43) (st' := [.ref 46, .ref 40, .ref 44]) rfl (fun _ => rfl) ?_
    obtain ⟨f3l, f3h, -⟩ := pw_obj (c := 28) I rfl
    refine pw_call (m' := 46) (As := [.ref 44, .ref 40, .ref 46]) (rest := []) (ls'' := [some (.ref 44), some (.ref 40), some (.ref 46), none]) (Nat.le_trans (by decide) hd) E rfl (fun _ => pw_iV rfl rfl rfl rfl (pw_cellI f3h rfl)) (rfl : pm_ent 46 = some (3, 4, 5, 0, pmc_46)) rfl rfl (cm_46_28 (pw_dp hd (by decide)) I hX ) ?_
    rintro h4 v5 ⟨h4I, h4E, hp, x6, rfl, hx6a, hx6b⟩
    have hl : pw_g h4 30 1 = pw_g h 30 1 := pw_Eg (c := 30) I h4E rfl rfl 1
    refine ⟨_, rfl, ?_⟩
    have h4F := E0.tr (h4E.wk (W' := [28, 29, 30, 31, 32, 33, 34, 36]) (by first | rfl | simp))
    show pw X d h4 45 46 [some (.ref 44), some (.ref 40), some (.ref 46)] [pw_i x6] _
    refine pw_iret E rfl ?_
    exact ⟨h4I, h4F, pw_Sr46 S hT hl hs2 hp, ⟨_, rfl, by omega, by omega, Or.inr (Or.inr hl)⟩⟩
  · refine pw_tswJ (o := 43) E (pc' := 47) rfl (by omega) (by omega) (by omega) (by rw [hs2]; rfl) (by decide) ?_
    refine pw_ld E (pc' := 48) (st' := [.ref 44]) rfl (fun _ => rfl) ?_
    refine pw_ld E (pc' := 49) (st' := [pw_i 2, .ref 44]) rfl (fun _ => rfl) ?_
    refine pw_putI I E (c := 28) (k := 7) (pc' := 52) rfl rfl rfl rfl (by omega) (by omega) (by omega) (by omega) rfl rfl ?_
    intro h7I h7E
    generalize h7w : pw_w h 28 7 (pw_i 2) = h7 at h7I h7E ⊢
    have hn : ∀ c' k', ¬ (28 = c' ∧ 7 = k') → pw_g h7 c' k' = pw_g h c' k' := fun c' k' hn => by rw [← h7w]; exact pw_g_ne hn
    have hx7 : pw_g h7 28 7 = 2 := by rw [← h7w]; exact pw_g_eq (c := 28) (k := 7) I rfl rfl (by omega) (by omega)
    have hk := hn 24 4 (by decide)
    have h4 := (pw_gI (c := 28) (k := 4) h7I rfl rfl).1
    have P7 := pw_Pof (S.2 (by omega)) (hn 28 4 (by decide)) (hn 28 5 (by decide)) (hn 28 6 (by decide)) (fun j => hn 29 j (by omega)) (hn 30 1 (by decide))
    have h7F := E0.tr (h7E.wk (W' := [28, 29, 30, 31, 32, 33, 34, 36]) (by first | rfl | simp))
    refine pw_ld E (pc' := 53) (st' := [.ref 40]) rfl (fun _ => rfl) ?_
    refine pw_ld E (pc' := 55) (st' := [.ref 9, .ref 40]) rfl (fun _ => rfl) ?_
    obtain ⟨f8l, f8h, -⟩ := pw_obj (c := 24) h7I rfl
    refine pw_call (m' := 108) (As := [.ref 40, .ref 9]) (rest := []) (ls'' := [some (.ref 40), some (.ref 9), none, none, none, none, none]) (Nat.le_trans (by decide) hd) E rfl (fun _ => pw_iV rfl rfl rfl rfl (pw_cellI f8h rfl)) (rfl : pm_ent 108 = some (2, 7, 9, 0, pmc_108)) rfl rfl (cm_108_24 (pw_dp hd (by decide)) h7I hX 9 (by omega) (by omega)) ?_
    rintro u10 v9 ⟨rfl, x11, rfl, hx11a, hx11b, hz⟩
    refine ⟨_, rfl, ?_⟩
    show pw X d h7 45 58 [some (.ref 44), some (.ref 40), some (.ref 46)] [pw_i x11] _
    refine pw_if E (pc' := 65) rfl (by decide) (by omega) (by omega) ?_ ?_
    · intro hc12
      change x11 ≠ (0 : Int) at hc12
      refine pw_ld E (pc' := 66) (st' := [pw_i 1]) rfl (fun _ => rfl) ?_
      refine pw_iret E rfl ?_
      exact ⟨h7I, h7F, pw_SrP P7 (by omega) h4, ⟨_, rfl, by omega, by omega, Or.inr (Or.inr (hn 30 1 (by decide)))⟩⟩
    · intro hc13
      change ¬ (x11 ≠ (0 : Int)) at hc13
      refine pw_ld E (pc' := 62) (st' := [pw_i 0]) rfl (fun _ => rfl) ?_
      refine pw_goto E (pc' := 66) rfl (by decide) ?_
      refine pw_iret E rfl ?_
      exact ⟨h7I, h7F, pw_SrP P7 (by omega) h4, ⟨_, rfl, by omega, by omega, Or.inr (Or.inr (hn 30 1 (by decide)))⟩⟩
  · refine pw_tswJ (o := 63) E (pc' := 67) rfl (by omega) (by omega) (by omega) (by rw [hs2]; rfl) (by decide) ?_
    refine pw_ld E (pc' := 68) (st' := [.ref 44]) rfl (fun _ => rfl) ?_
    refine pw_ld E (pc' := 69) (st' := [.ref 40, .ref 44]) rfl (fun _ => rfl) ?_
    refine pw_ld E (pc' := 70) (st' := [.ref 46, .ref 40, .ref 44]) rfl (fun _ => rfl) ?_
    obtain ⟨f14l, f14h, -⟩ := pw_obj (c := 28) I rfl
    refine pw_call (m' := 47) (As := [.ref 44, .ref 40, .ref 46]) (rest := []) (ls'' := [some (.ref 44), some (.ref 40), some (.ref 46), none, none, none, none]) (Nat.le_trans (by decide) hd) E rfl (fun _ => pw_iV rfl rfl rfl rfl (pw_cellI f14h rfl)) (rfl : pm_ent 47 = some (3, 7, 5, 0, pmc_47)) rfl rfl (cm_47_28 (pw_dp hd (by decide)) I hX (S.2 (by omega))) ?_
    rintro h15 v16 ⟨h15I, h15E, hp, x17, rfl, hx17a, hx17b, hz⟩
    have h4 := (pw_gI (c := 28) (k := 4) h15I rfl rfl).1
    refine ⟨_, rfl, ?_⟩
    have h15F := E0.tr (h15E.wk (W' := [28, 29, 30, 31, 32, 33, 34, 36]) (by first | rfl | simp))
    show pw X d h15 45 73 [some (.ref 44), some (.ref 40), some (.ref 46)] [pw_i x17] _
    refine pw_iret E rfl ?_
    exact ⟨h15I, h15F, pw_SrP hp (by omega) h4, ⟨_, rfl, by omega, by omega, by omega⟩⟩
  · refine pw_tswJ (o := 70) E (pc' := 74) rfl (by omega) (by omega) (by omega) (by rw [hs2]; rfl) (by decide) ?_
    refine pw_ld E (pc' := 75) (st' := [.ref 44]) rfl (fun _ => rfl) ?_
    refine pw_ld E (pc' := 76) (st' := [.ref 40, .ref 44]) rfl (fun _ => rfl) ?_
    refine pw_ld E (pc' := 77) (st' := [.ref 46, .ref 40, .ref 44]) rfl (fun _ => rfl) ?_
    obtain ⟨f18l, f18h, -⟩ := pw_obj (c := 28) I rfl
    refine pw_call (m' := 50) (As := [.ref 44, .ref 40, .ref 46]) (rest := []) (ls'' := [some (.ref 44), some (.ref 40), some (.ref 46), none, none]) (Nat.le_trans (by decide) hd) E rfl (fun _ => pw_iV rfl rfl rfl rfl (pw_cellI f18h rfl)) (rfl : pm_ent 50 = some (3, 5, 5, 0, pmc_50)) rfl rfl (cm_50_28 (pw_dp hd (by decide)) I hX hR (S.2 (by omega))) ?_
    rintro h19 v20 ⟨h19I, h19E, hp, x21, rfl, hx21a, hx21b, hz⟩
    have h4 := (pw_gI (c := 28) (k := 4) h19I rfl rfl).1
    refine ⟨_, rfl, ?_⟩
    have h19F := E0.tr (h19E.wk (W' := [28, 29, 30, 31, 32, 33, 34, 36]) (by first | rfl | simp))
    show pw X d h19 45 80 [some (.ref 44), some (.ref 40), some (.ref 46)] [pw_i x21] _
    refine pw_iret E rfl ?_
    exact ⟨h19I, h19F, pw_SrP hp (by omega) h4, ⟨_, rfl, by omega, by omega, by omega⟩⟩
  · refine pw_tswJ (o := 77) E (pc' := 81) rfl (by omega) (by omega) (by omega) (by rw [hs2]; rfl) (by decide) ?_
    refine pw_ld E (pc' := 82) (st' := [.ref 44]) rfl (fun _ => rfl) ?_
    refine pw_ld E (pc' := 83) (st' := [.ref 40, .ref 44]) rfl (fun _ => rfl) ?_
    refine pw_ld E (pc' := 84) (st' := [.ref 46, .ref 40, .ref 44]) rfl (fun _ => rfl) ?_
    obtain ⟨f22l, f22h, -⟩ := pw_obj (c := 28) I rfl
    refine pw_call (m' := 56) (As := [.ref 44, .ref 40, .ref 46]) (rest := []) (ls'' := [some (.ref 44), some (.ref 40), some (.ref 46)]) (Nat.le_trans (by decide) hd) E rfl (fun _ => pw_iV rfl rfl rfl rfl (pw_cellI f22h rfl)) (rfl : pm_ent 56 = some (3, 3, 5, 0, pmc_56)) rfl rfl (cm_56_28 (pw_dp hd (by decide)) I hX hv) ?_
    rintro h23 v24 ⟨h23I, h23E, hp, x25, rfl, hx25a, hx25b, hz⟩
    have hl : pw_g h23 30 1 = pw_g h 30 1 := pw_Eg (c := 30) I h23E rfl rfl 1
    refine ⟨_, rfl, ?_⟩
    have h23F := E0.tr (h23E.wk (W' := [28, 29, 30, 31, 32, 33, 34, 36]) (by first | rfl | simp))
    show pw X d h23 45 87 [some (.ref 44), some (.ref 40), some (.ref 46)] [pw_i x25] _
    refine pw_iret E rfl ?_
    exact ⟨h23I, h23F, pw_Sr0 S hl (by omega), ⟨_, rfl, by omega, by omega, Or.inr (Or.inr hl)⟩⟩
  · refine pw_tswD E (pc' := 88) rfl (by omega) (by omega) hs2 (by decide) ?_
    refine pw_ld E (pc' := 89) (st' := [.ref 44]) rfl (fun _ => rfl) ?_
    refine pw_ld E (pc' := 90) (st' := [pw_i 0, .ref 44]) rfl (fun _ => rfl) ?_
    refine pw_putI I E (c := 28) (k := 7) (pc' := 93) rfl rfl rfl rfl (by omega) (by omega) (by omega) (by omega) rfl rfl ?_
    intro h26I h26E
    generalize h26w : pw_w h 28 7 (pw_i 0) = h26 at h26I h26E ⊢
    have hn : ∀ c' k', ¬ (28 = c' ∧ 7 = k') → pw_g h26 c' k' = pw_g h c' k' := fun c' k' hn => by rw [← h26w]; exact pw_g_ne hn
    have hx7 : pw_g h26 28 7 = 0 := by rw [← h26w]; exact pw_g_eq (c := 28) (k := 7) I rfl rfl (by omega) (by omega)
    have hk := hn 24 4 (by decide)
    have h26F := E0.tr (h26E.wk (W' := [28, 29, 30, 31, 32, 33, 34, 36]) (by first | rfl | simp))
    refine pw_ld E (pc' := 94) (st' := [.ref 40]) rfl (fun _ => rfl) ?_
    refine pw_bip E (pc' := 96) rfl rfl (by decide) ?_
    obtain ⟨f27l, f27h, -⟩ := pw_obj (c := 24) h26I rfl
    refine pw_call (m' := 109) (As := [.ref 40, pw_i 59]) (rest := []) (ls'' := [some (.ref 40), some (pw_i 59)]) (Nat.le_trans (by decide) hd) E rfl (fun _ => pw_iV rfl rfl rfl rfl (pw_cellI f27h rfl)) (rfl : pm_ent 109 = some (2, 2, 9, 1, pmc_109)) rfl rfl (cm_109_24 (pw_dp hd (by decide)) h26I (59) (by omega) (by omega)) ?_
    rintro u29 v28 ⟨rfl, x30, rfl, hx30a, hx30b, hz⟩
    refine ⟨_, rfl, ?_⟩
    show pw X d h26 45 99 [some (.ref 44), some (.ref 40), some (.ref 46)] [pw_i x30] _
    refine pw_if E (pc' := 106) rfl (by decide) (by omega) (by omega) ?_ ?_
    · intro hc31
      change x30 = (0 : Int) at hc31
      refine pw_ld E (pc' := 107) (st' := [pw_i 1]) rfl (fun _ => rfl) ?_
      refine pw_iret E rfl ?_
      exact ⟨h26I, h26F, pw_Sr0 S (hn 30 1 (by decide)) (by omega), ⟨_, rfl, by omega, by omega, Or.inr (Or.inr (hn 30 1 (by decide)))⟩⟩
    · intro hc32
      change ¬ (x30 = (0 : Int)) at hc32
      refine pw_ld E (pc' := 103) (st' := [pw_i 0]) rfl (fun _ => rfl) ?_
      refine pw_goto E (pc' := 107) rfl (by decide) ?_
      refine pw_iret E rfl ?_
      exact ⟨h26I, h26F, pw_Sr0 S (hn 30 1 (by decide)) (by omega), ⟨_, rfl, by omega, by omega, Or.inr (Or.inr (hn 30 1 (by decide)))⟩⟩
end
section
/-! a letter, a digit, a word: how far the tokens go on (printed by wip/tool/reader8.py) -/
set_option maxHeartbeats 4000000 in
theorem cm_103_24 {X : List (Nat × List Value)} {d : Nat} {h : pm_H} (hd : 1 ≤ d) (I : pw_I h) (ch : Int) (hch1 : 0 ≤ ch) (hch2 : ch ≤ 65535) : pw X d h 103 0 [some (pw_i ch)] [] (fun h' v => h = h' ∧ ∃ a : Int, v = .inl (some (pw_i a)) ∧ 0 ≤ a ∧ a ≤ 1 ∧ ((a = 1 ∧ 97 ≤ ch ∧ ch ≤ 122) ∨ (a = 0 ∧ ¬ (97 ≤ ch ∧ ch ≤ 122)))) := by
  have E : pm_ent 103 = some (1, 1, 9, 1, pmc_103) := rfl
  refine pw_ld E (pc' := 1) (st' := [pw_i ch]) rfl (fun _ => rfl) ?_
  refine pw_bip E (pc' := 3) rfl rfl (by decide) ?_
  refine pw_if2 E (pc' := 16) rfl (by decide) (by omega) (by omega) (by decide) (by decide) ?_ ?_
  · intro hc1
    change ch < (97 : Int) at hc1
    refine pw_ld E (pc' := 17) (st' := [pw_i 0]) rfl (fun _ => rfl) ?_
    refine pw_zret E rfl (by omega) ?_
    exact ⟨rfl, ⟨_, rfl, by omega, by omega, by omega⟩⟩
  · intro hc2
    change ¬ (ch < (97 : Int)) at hc2
    refine pw_ld E (pc' := 7) (st' := [pw_i ch]) rfl (fun _ => rfl) ?_
    refine pw_bip E (pc' := 9) rfl rfl (by decide) ?_
    refine pw_if2 E (pc' := 16) rfl (by decide) (by omega) (by omega) (by decide) (by decide) ?_ ?_
    · intro hc3
      change (122 : Int) < ch at hc3
      refine pw_ld E (pc' := 17) (st' := [pw_i 0]) rfl (fun _ => rfl) ?_
      refine pw_zret E rfl (by omega) ?_
      exact ⟨rfl, ⟨_, rfl, by omega, by omega, by omega⟩⟩
    · intro hc4
      change ¬ ((122 : Int) < ch) at hc4
      refine pw_ld E (pc' := 13) (st' := [pw_i 1]) rfl (fun _ => rfl) ?_
      refine pw_goto E (pc' := 17) rfl (by decide) ?_
      refine pw_zret E rfl (by omega) ?_
      exact ⟨rfl, ⟨_, rfl, by omega, by omega, by omega⟩⟩
set_option maxHeartbeats 4000000 in
theorem cm_105_24 {X : List (Nat × List Value)} {d : Nat} {h : pm_H} (hd : 1 ≤ d) (I : pw_I h) (ch : Int) (hch1 : 0 ≤ ch) (hch2 : ch ≤ 65535) : pw X d h 105 0 [some (pw_i ch)] [] (fun h' v => h = h' ∧ ∃ a : Int, v = .inl (some (pw_i a)) ∧ 0 ≤ a ∧ a ≤ 1 ∧ ((a = 1 ∧ 48 ≤ ch ∧ ch ≤ 57) ∨ (a = 0 ∧ ¬ (48 ≤ ch ∧ ch ≤ 57)))) := by
  have E : pm_ent 105 = some (1, 1, 9, 1, pmc_105) := rfl
  refine pw_ld E (pc' := 1) (st' := [pw_i ch]) rfl (fun _ => rfl) ?_
  refine pw_bip E (pc' := 3) rfl rfl (by decide) ?_
  refine pw_if2 E (pc' := 16) rfl (by decide) (by omega) (by omega) (by decide) (by decide) ?_ ?_
  · intro hc1
    change ch < (48 : Int) at hc1
    refine pw_ld E (pc' := 17) (st' := [pw_i 0]) rfl (fun _ => rfl) ?_
    refine pw_zret E rfl (by omega) ?_
    exact ⟨rfl, ⟨_, rfl, by omega, by omega, by omega⟩⟩
  · intro hc2
    change ¬ (ch < (48 : Int)) at hc2
    refine pw_ld E (pc' := 7) (st' := [pw_i ch]) rfl (fun _ => rfl) ?_
    refine pw_bip E (pc' := 9) rfl rfl (by decide) ?_
    refine pw_if2 E (pc' := 16) rfl (by decide) (by omega) (by omega) (by decide) (by decide) ?_ ?_
    · intro hc3
      change (57 : Int) < ch at hc3
      refine pw_ld E (pc' := 17) (st' := [pw_i 0]) rfl (fun _ => rfl) ?_
      refine pw_zret E rfl (by omega) ?_
      exact ⟨rfl, ⟨_, rfl, by omega, by omega, by omega⟩⟩
    · intro hc4
      change ¬ ((57 : Int) < ch) at hc4
      refine pw_ld E (pc' := 13) (st' := [pw_i 1]) rfl (fun _ => rfl) ?_
      refine pw_goto E (pc' := 17) rfl (by decide) ?_
      refine pw_zret E rfl (by omega) ?_
      exact ⟨rfl, ⟨_, rfl, by omega, by omega, by omega⟩⟩
set_option maxHeartbeats 4000000 in
theorem cm_104_24 {X : List (Nat × List Value)} {d : Nat} {h : pm_H} (hd : 2 ≤ d) (I : pw_I h) (hp0 : pw_g h 24 3 < pw_g h 24 1) (hp1 : 97 ≤ pw_g h 25 (pw_g h 24 3).toNat ∧ pw_g h 25 (pw_g h 24 3).toNat ≤ 122) : pw X d h 104 0 [some (.ref 40)] [] (fun h' v => pw_I h' ∧ pw_E [24] h h' ∧ (pw_g h 24 3 + 1 ≤ pw_g h' 24 3 ∧ pw_g h' 24 4 ≠ 2) ∧ (v = .inl none)) := by
  have E : pm_ent 104 = some (1, 1, 9, 4, pmc_104) := rfl
  have E0 : pw_E [24] h h := pw_E.rf _ _
  have L0 : ∀ (n0 : Nat)  (h0 : pm_H), pw_I h0 → pw_E [24] h h0 → pw_g h0 24 1 = pw_g h 24 1 → pw_g h 24 3 ≤ pw_g h0 24 3 → (1000 - pw_g h0 24 3).toNat = n0 → pw X d h0 104 0 [some (.ref 40)] [] (fun h' v => pw_I h' ∧ pw_E [24] h h' ∧ (pw_g h 24 3 + 1 ≤ pw_g h' 24 3 ∧ pw_g h' 24 4 ≠ 2) ∧ (v = .inl none)) := by
    intro n0
    induction n0 using Nat.strongRecOn with
    | ind n0 ih0 =>
      intro  h0 I0 E0 hx0_0 hx0_1 hm0
      refine pw_ld E (pc' := 1) (st' := [.ref 40]) rfl (fun _ => rfl) ?_
      refine pw_getI2 I0 E (c := 24) (k := 3) (pc' := 4) rfl rfl rfl rfl rfl rfl (fun hf1a hf1b => ?_)
      refine pw_ld E (pc' := 5) (st' := [.ref 40, pw_i (pw_g h0 24 3)]) rfl (fun _ => rfl) ?_
      refine pw_getI2 I0 E (c := 24) (k := 1) (pc' := 8) rfl rfl rfl rfl rfl rfl (fun hf2a hf2b => ?_)
      refine pw_if2 E (pc' := 39) rfl (by decide) (by omega) (by omega) (by omega) (by omega) ?_ ?_
      · intro hc3
        change pw_g h0 24 1 ≤ pw_g h0 24 3 at hc3
        refine pw_ld E (pc' := 40) (st' := [.ref 40]) rfl (fun _ => rfl) ?_
        refine pw_ld E (pc' := 41) (st' := [.ref 40, .ref 40]) rfl (fun _ => rfl) ?_
        refine pw_getI2 I0 E (c := 24) (k := 3) (pc' := 44) rfl rfl rfl rfl rfl rfl (fun hf4a hf4b => ?_)
        refine pw_ld E (pc' := 45) (st' := [.ref 40, pw_i (pw_g h0 24 3), .ref 40]) rfl (fun _ => rfl) ?_
        refine pw_getI2 I0 E (c := 24) (k := 2) (pc' := 48) rfl rfl rfl rfl rfl rfl (fun hf5a hf5b => ?_)
        refine pw_sub E (pc' := 49) rfl rfl ?_
        refine pw_bip E (pc' := 51) rfl rfl (by decide) ?_
        refine pw_if2 E (pc' := 58) rfl (by decide) (by omega) (by omega) (by decide) (by decide) ?_ ?_
        · intro hc6
          change (8 : Int) < (pw_g h0 24 3) - (pw_g h0 24 2) at hc6
          refine pw_ld E (pc' := 59) (st' := [pw_i 0, .ref 40]) rfl (fun _ => rfl) ?_
          refine pw_putI I0 E (c := 24) (k := 4) (pc' := 62) rfl rfl rfl rfl (by omega) (by omega) (by omega) (by omega) rfl rfl ?_
          intro h7I h7E
          generalize h7w : pw_w h0 24 4 (pw_i 0) = h7 at h7I h7E ⊢
          have h7F := E0.tr (h7E.wk (W' := [24]) (by first | rfl | simp))
          have he8 : pw_g h7 24 3 = pw_g h0 24 3 := by rw [← h7w]; exact pw_g_ne (by omega)
          have he9 : pw_g h7 24 4 = 0 := by rw [← h7w]; exact pw_g_eq (c := 24) (k := 4) I0 rfl rfl (by omega) (by omega)
          refine pw_vret E rfl ?_
          exact ⟨h7I, h7F, ⟨by omega, rfl⟩⟩
        · intro hc10
          change ¬ ((8 : Int) < (pw_g h0 24 3) - (pw_g h0 24 2)) at hc10
          refine pw_ld E (pc' := 55) (st' := [pw_i 1, .ref 40]) rfl (fun _ => rfl) ?_
          refine pw_goto E (pc' := 59) rfl (by decide) ?_
          refine pw_putI I0 E (c := 24) (k := 4) (pc' := 62) rfl rfl rfl rfl (by omega) (by omega) (by omega) (by omega) rfl rfl ?_
          intro h11I h11E
          generalize h11w : pw_w h0 24 4 (pw_i 1) = h11 at h11I h11E ⊢
          have h11F := E0.tr (h11E.wk (W' := [24]) (by first | rfl | simp))
          have he12 : pw_g h11 24 3 = pw_g h0 24 3 := by rw [← h11w]; exact pw_g_ne (by omega)
          have he13 : pw_g h11 24 4 = 1 := by rw [← h11w]; exact pw_g_eq (c := 24) (k := 4) I0 rfl rfl (by omega) (by omega)
          refine pw_vret E rfl ?_
          exact ⟨h11I, h11F, ⟨by omega, rfl⟩⟩
      · intro hc14
        change ¬ (pw_g h0 24 1 ≤ pw_g h0 24 3) at hc14
        refine pw_ld E (pc' := 12) (st' := [.ref 40]) rfl (fun _ => rfl) ?_
        refine pw_getR (b := 41) I0 E (c := 24) (k := 0) (pc' := 15) rfl rfl rfl rfl rfl rfl rfl ?_
        refine pw_ld E (pc' := 16) (st' := [.ref 40, .ref 41]) rfl (fun _ => rfl) ?_
        refine pw_getI2 I0 E (c := 24) (k := 3) (pc' := 19) rfl rfl rfl rfl rfl rfl (fun hf15a hf15b => ?_)
        refine pw_ald2 I0 E (c := 25) (pc' := 20) rfl rfl rfl (by decide) rfl (by decide) (by omega) (by omega) rfl (fun hf16a hf16b => ?_)
        refine pw_call (m' := 103) (As := [pw_i (pw_g h0 25 ((pw_g h0 24 3).toNat))]) (rest := []) (ls'' := [some (pw_i (pw_g h0 25 ((pw_g h0 24 3).toNat)))]) (Nat.le_trans (by decide) hd) E rfl (fun _ => pw_iS rfl rfl rfl) (rfl : pm_ent 103 = some (1, 1, 9, 1, pmc_103)) rfl rfl (cm_103_24 (pw_dp hd (by decide)) I0 (pw_g h0 25 ((pw_g h0 24 3).toNat)) (by omega) (by omega)) ?_
        rintro u18 v17 ⟨rfl, x19, rfl, hx19a, hx19b, hx19r⟩
        refine ⟨_, rfl, ?_⟩
        show pw X d h0 104 23 [some (.ref 40)] [pw_i x19] _
        change (x19 = 1 ∧ 97 ≤ (pw_g h0 25 ((pw_g h0 24 3).toNat)) ∧ (pw_g h0 25 ((pw_g h0 24 3).toNat)) ≤ 122) ∨ (x19 = 0 ∧ ¬ (97 ≤ (pw_g h0 25 ((pw_g h0 24 3).toNat)) ∧ (pw_g h0 25 ((pw_g h0 24 3).toNat)) ≤ 122)) at hx19r
        rcases (by omega : x19 = 1 ∨ x19 = 0) with hb20 | hb20
        · skip
          refine pw_if E (pc' := 39) rfl (by decide) (by omega) (by omega) ?_ ?_
          · intro hc21
            change x19 = (0 : Int) at hc21
            exfalso; omega
          · intro hc22
            change ¬ (x19 = (0 : Int)) at hc22
            refine pw_ld E (pc' := 27) (st' := [.ref 40]) rfl (fun _ => rfl) ?_
            refine pw_ld E (pc' := 28) (st' := [.ref 40, .ref 40]) rfl (fun _ => rfl) ?_
            refine pw_getI2 I0 E (c := 24) (k := 3) (pc' := 31) rfl rfl rfl rfl rfl rfl (fun hf23a hf23b => ?_)
            refine pw_ld E (pc' := 32) (st' := [pw_i 1, pw_i (pw_g h0 24 3), .ref 40]) rfl (fun _ => rfl) ?_
            refine pw_add E (pc' := 33) rfl rfl ?_
            refine pw_putI I0 E (c := 24) (k := 3) (pc' := 36) rfl rfl rfl rfl (by omega) (by omega) (by omega) (by omega) rfl rfl ?_
            intro h24I h24E
            generalize h24w : pw_w h0 24 3 (pw_i ((pw_g h0 24 3) + 1)) = h24 at h24I h24E ⊢
            have h24F := E0.tr (h24E.wk (W' := [24]) (by first | rfl | simp))
            refine pw_goto E (pc' := 0) rfl (by decide) ?_
            have he25 : pw_g h24 24 3 = (pw_g h0 24 3) + 1 := by rw [← h24w]; exact pw_g_eq (c := 24) (k := 3) I0 rfl rfl (by omega) (by omega)
            have he26 : pw_g h24 24 1 = pw_g h0 24 1 := by rw [← h24w]; exact pw_g_ne (by omega)
            exact ih0 _ (by omega)  h24 h24I h24F  (by omega) (by omega) rfl
        · skip
          have hne : pw_g h 24 3 + 1 ≤ pw_g h0 24 3 := by
            by_cases hq : pw_g h0 24 3 = pw_g h 24 3
            · rw [hq, pw_Eg (c := 25) I E0 rfl rfl _] at hx19r
              omega
            · omega
          refine pw_if E (pc' := 39) rfl (by decide) (by omega) (by omega) ?_ ?_
          · intro hc28
            change x19 = (0 : Int) at hc28
            refine pw_ld E (pc' := 40) (st' := [.ref 40]) rfl (fun _ => rfl) ?_
            refine pw_ld E (pc' := 41) (st' := [.ref 40, .ref 40]) rfl (fun _ => rfl) ?_
            refine pw_getI2 I0 E (c := 24) (k := 3) (pc' := 44) rfl rfl rfl rfl rfl rfl (fun hf29a hf29b => ?_)
            refine pw_ld E (pc' := 45) (st' := [.ref 40, pw_i (pw_g h0 24 3), .ref 40]) rfl (fun _ => rfl) ?_
            refine pw_getI2 I0 E (c := 24) (k := 2) (pc' := 48) rfl rfl rfl rfl rfl rfl (fun hf30a hf30b => ?_)
            refine pw_sub E (pc' := 49) rfl rfl ?_
            refine pw_bip E (pc' := 51) rfl rfl (by decide) ?_
            refine pw_if2 E (pc' := 58) rfl (by decide) (by omega) (by omega) (by decide) (by decide) ?_ ?_
            · intro hc31
              change (8 : Int) < (pw_g h0 24 3) - (pw_g h0 24 2) at hc31
              refine pw_ld E (pc' := 59) (st' := [pw_i 0, .ref 40]) rfl (fun _ => rfl) ?_
              refine pw_putI I0 E (c := 24) (k := 4) (pc' := 62) rfl rfl rfl rfl (by omega) (by omega) (by omega) (by omega) rfl rfl ?_
              intro h32I h32E
              generalize h32w : pw_w h0 24 4 (pw_i 0) = h32 at h32I h32E ⊢
              have h32F := E0.tr (h32E.wk (W' := [24]) (by first | rfl | simp))
              have he33 : pw_g h32 24 3 = pw_g h0 24 3 := by rw [← h32w]; exact pw_g_ne (by omega)
              have he34 : pw_g h32 24 4 = 0 := by rw [← h32w]; exact pw_g_eq (c := 24) (k := 4) I0 rfl rfl (by omega) (by omega)
              refine pw_vret E rfl ?_
              exact ⟨h32I, h32F, ⟨by omega, rfl⟩⟩
            · intro hc35
              change ¬ ((8 : Int) < (pw_g h0 24 3) - (pw_g h0 24 2)) at hc35
              refine pw_ld E (pc' := 55) (st' := [pw_i 1, .ref 40]) rfl (fun _ => rfl) ?_
              refine pw_goto E (pc' := 59) rfl (by decide) ?_
              refine pw_putI I0 E (c := 24) (k := 4) (pc' := 62) rfl rfl rfl rfl (by omega) (by omega) (by omega) (by omega) rfl rfl ?_
              intro h36I h36E
              generalize h36w : pw_w h0 24 4 (pw_i 1) = h36 at h36I h36E ⊢
              have h36F := E0.tr (h36E.wk (W' := [24]) (by first | rfl | simp))
              have he37 : pw_g h36 24 3 = pw_g h0 24 3 := by rw [← h36w]; exact pw_g_ne (by omega)
              have he38 : pw_g h36 24 4 = 1 := by rw [← h36w]; exact pw_g_eq (c := 24) (k := 4) I0 rfl rfl (by omega) (by omega)
              refine pw_vret E rfl ?_
              exact ⟨h36I, h36F, ⟨by omega, rfl⟩⟩
          · intro hc39
            change ¬ (x19 = (0 : Int)) at hc39
            exfalso; omega
  exact L0 _  h I E0  (by omega) (by omega) rfl
end
section
/-! a number: how far the tokens go on, and that it is not negative (printed by wip/tool/reader9.py) -/
theorem pw_nmE {X : List (Nat × List Value)} {d : Nat} {h : pm_H} {m pc : Nat} {ls : pm_L} {r : List Value} {Q : pm_H → (Option Value ⊕ Unit) → Prop} {a : Int} (H : ∀ b : Int, -2147483648 ≤ b → b ≤ 2147483647 → ((a < -2147483648 ∨ 2147483647 < a) ∨ b = a) → pw X d h m pc ls (pw_i b :: r) Q) : pw X d h m pc ls (pw_i a :: r) Q := by
  by_cases hr : a < -2147483648 ∨ 2147483647 < a
  · exact pw_nm (fun b h1 h2 => H b h1 h2 (Or.inl hr))
  · exact H a (by omega) (by omega) (Or.inr rfl)
set_option maxHeartbeats 4000000 in
theorem cm_106_24 {X : List (Nat × List Value)} {d : Nat} {h : pm_H} (hd : 2 ≤ d) (I : pw_I h) (hp0 : pw_g h 24 3 < pw_g h 24 1) (hp1 : 48 ≤ pw_g h 25 (pw_g h 24 3).toNat ∧ pw_g h 25 (pw_g h 24 3).toNat ≤ 57) (hp2 : pw_g h 24 2 = pw_g h 24 3) : pw X d h 106 0 [some (.ref 40)] [] (fun h' v => pw_I h' ∧ pw_E [24] h h' ∧ (pw_g h 24 3 + 1 ≤ pw_g h' 24 3 ∧ (pw_g h' 24 4 ≠ 2 ∨ 0 ≤ pw_g h' 24 5)) ∧ (v = .inl none)) := by
  have E : pm_ent 106 = some (1, 1, 9, 4, pmc_106) := rfl
  have E0 : pw_E [24] h h := pw_E.rf _ _
  refine pw_ld E (pc' := 1) (st' := [.ref 40]) rfl (fun _ => rfl) ?_
  refine pw_ld E (pc' := 2) (st' := [pw_i 0, .ref 40]) rfl (fun _ => rfl) ?_
  refine pw_putI I E (c := 24) (k := 5) (pc' := 5) rfl rfl rfl rfl (by omega) (by omega) (by omega) (by omega) rfl rfl ?_
  intro h1I h1E
  generalize h1w : pw_w h 24 5 (pw_i 0) = h1 at h1I h1E ⊢
  have h1F := E0.tr (h1E.wk (W' := [24]) (by first | rfl | simp))
  have L5 : ∀ (n5 : Nat)  (h5 : pm_H), pw_I h5 → pw_E [24] h h5 → pw_g h5 24 1 = pw_g h 24 1 → pw_g h5 24 2 = pw_g h 24 2 → pw_g h 24 3 ≤ pw_g h5 24 3 → ((pw_g h5 24 3 = pw_g h 24 3 ∧ pw_g h5 24 5 = 0) ∨ (pw_g h5 24 3 = pw_g h 24 3 + 1 ∧ 0 ≤ pw_g h5 24 5 ∧ pw_g h5 24 5 ≤ 9) ∨ (pw_g h5 24 3 = pw_g h 24 3 + 2 ∧ 0 ≤ pw_g h5 24 5 ∧ pw_g h5 24 5 ≤ 99) ∨ (pw_g h5 24 3 = pw_g h 24 3 + 3 ∧ 0 ≤ pw_g h5 24 5 ∧ pw_g h5 24 5 ≤ 999) ∨ (pw_g h5 24 3 = pw_g h 24 3 + 4 ∧ 0 ≤ pw_g h5 24 5 ∧ pw_g h5 24 5 ≤ 9999) ∨ pw_g h 24 3 + 5 ≤ pw_g h5 24 3) → (1000 - pw_g h5 24 3).toNat = n5 → pw X d h5 106 5 [some (.ref 40)] [] (fun h' v => pw_I h' ∧ pw_E [24] h h' ∧ (pw_g h 24 3 + 1 ≤ pw_g h' 24 3 ∧ (pw_g h' 24 4 ≠ 2 ∨ 0 ≤ pw_g h' 24 5)) ∧ (v = .inl none)) := by
    intro n5
    induction n5 using Nat.strongRecOn with
    | ind n5 ih5 =>
      intro  h5 I5 E5 hx5_0 hx5_1 hx5_2 hx5_3 hm5
      refine pw_ld E (pc' := 6) (st' := [.ref 40]) rfl (fun _ => rfl) ?_
      refine pw_getI2 I5 E (c := 24) (k := 3) (pc' := 9) rfl rfl rfl rfl rfl rfl (fun hf2a hf2b => ?_)
      refine pw_ld E (pc' := 10) (st' := [.ref 40, pw_i (pw_g h5 24 3)]) rfl (fun _ => rfl) ?_
      refine pw_getI2 I5 E (c := 24) (k := 1) (pc' := 13) rfl rfl rfl rfl rfl rfl (fun hf3a hf3b => ?_)
      refine pw_if2 E (pc' := 68) rfl (by decide) (by omega) (by omega) (by omega) (by omega) ?_ ?_
      · intro hc4
        change pw_g h5 24 1 ≤ pw_g h5 24 3 at hc4
        refine pw_ld E (pc' := 69) (st' := [.ref 40]) rfl (fun _ => rfl) ?_
        refine pw_ld E (pc' := 70) (st' := [.ref 40, .ref 40]) rfl (fun _ => rfl) ?_
        refine pw_getI2 I5 E (c := 24) (k := 3) (pc' := 73) rfl rfl rfl rfl rfl rfl (fun hf5a hf5b => ?_)
        refine pw_ld E (pc' := 74) (st' := [.ref 40, pw_i (pw_g h5 24 3), .ref 40]) rfl (fun _ => rfl) ?_
        refine pw_getI2 I5 E (c := 24) (k := 2) (pc' := 77) rfl rfl rfl rfl rfl rfl (fun hf6a hf6b => ?_)
        refine pw_sub E (pc' := 78) rfl rfl ?_
        refine pw_ld E (pc' := 79) (st' := [pw_i 4, pw_i ((pw_g h5 24 3) - (pw_g h5 24 2)), .ref 40]) rfl (fun _ => rfl) ?_
        refine pw_if2 E (pc' := 86) rfl (by decide) (by omega) (by omega) (by decide) (by decide) ?_ ?_
        · intro hc7
          change (4 : Int) < (pw_g h5 24 3) - (pw_g h5 24 2) at hc7
          refine pw_ld E (pc' := 87) (st' := [pw_i 0, .ref 40]) rfl (fun _ => rfl) ?_
          refine pw_putI I5 E (c := 24) (k := 4) (pc' := 90) rfl rfl rfl rfl (by omega) (by omega) (by omega) (by omega) rfl rfl ?_
          intro h8I h8E
          generalize h8w : pw_w h5 24 4 (pw_i 0) = h8 at h8I h8E ⊢
          have h8F := E5.tr (h8E.wk (W' := [24]) (by first | rfl | simp))
          have he9 : pw_g h8 24 3 = pw_g h5 24 3 := by rw [← h8w]; exact pw_g_ne (by omega)
          have he10 : pw_g h8 24 4 = 0 := by rw [← h8w]; exact pw_g_eq (c := 24) (k := 4) I5 rfl rfl (by omega) (by omega)
          have he11 : pw_g h8 24 5 = pw_g h5 24 5 := by rw [← h8w]; exact pw_g_ne (by omega)
          refine pw_vret E rfl ?_
          exact ⟨h8I, h8F, ⟨by omega, rfl⟩⟩
        · intro hc12
          change ¬ ((4 : Int) < (pw_g h5 24 3) - (pw_g h5 24 2)) at hc12
          refine pw_ld E (pc' := 83) (st' := [pw_i 2, .ref 40]) rfl (fun _ => rfl) ?_
          refine pw_goto E (pc' := 87) rfl (by decide) ?_
          refine pw_putI I5 E (c := 24) (k := 4) (pc' := 90) rfl rfl rfl rfl (by omega) (by omega) (by omega) (by omega) rfl rfl ?_
          intro h13I h13E
          generalize h13w : pw_w h5 24 4 (pw_i 2) = h13 at h13I h13E ⊢
          have h13F := E5.tr (h13E.wk (W' := [24]) (by first | rfl | simp))
          have he14 : pw_g h13 24 3 = pw_g h5 24 3 := by rw [← h13w]; exact pw_g_ne (by omega)
          have he15 : pw_g h13 24 4 = 2 := by rw [← h13w]; exact pw_g_eq (c := 24) (k := 4) I5 rfl rfl (by omega) (by omega)
          have he16 : pw_g h13 24 5 = pw_g h5 24 5 := by rw [← h13w]; exact pw_g_ne (by omega)
          refine pw_vret E rfl ?_
          exact ⟨h13I, h13F, ⟨by omega, rfl⟩⟩
      · intro hc17
        change ¬ (pw_g h5 24 1 ≤ pw_g h5 24 3) at hc17
        refine pw_ld E (pc' := 17) (st' := [.ref 40]) rfl (fun _ => rfl) ?_
        refine pw_getR (b := 41) I5 E (c := 24) (k := 0) (pc' := 20) rfl rfl rfl rfl rfl rfl rfl ?_
        refine pw_ld E (pc' := 21) (st' := [.ref 40, .ref 41]) rfl (fun _ => rfl) ?_
        refine pw_getI2 I5 E (c := 24) (k := 3) (pc' := 24) rfl rfl rfl rfl rfl rfl (fun hf18a hf18b => ?_)
        refine pw_ald2 I5 E (c := 25) (pc' := 25) rfl rfl rfl (by decide) rfl (by decide) (by omega) (by omega) rfl (fun hf19a hf19b => ?_)
        refine pw_call (m' := 105) (As := [pw_i (pw_g h5 25 ((pw_g h5 24 3).toNat))]) (rest := []) (ls'' := [some (pw_i (pw_g h5 25 ((pw_g h5 24 3).toNat)))]) (Nat.le_trans (by decide) hd) E rfl (fun _ => pw_iS rfl rfl rfl) (rfl : pm_ent 105 = some (1, 1, 9, 1, pmc_105)) rfl rfl (cm_105_24 (pw_dp hd (by decide)) I5 (pw_g h5 25 ((pw_g h5 24 3).toNat)) (by omega) (by omega)) ?_
        rintro u21 v20 ⟨rfl, x22, rfl, hx22a, hx22b, hx22r⟩
        refine ⟨_, rfl, ?_⟩
        show pw X d h5 106 28 [some (.ref 40)] [pw_i x22] _
        change (x22 = 1 ∧ 48 ≤ (pw_g h5 25 ((pw_g h5 24 3).toNat)) ∧ (pw_g h5 25 ((pw_g h5 24 3).toNat)) ≤ 57) ∨ (x22 = 0 ∧ ¬ (48 ≤ (pw_g h5 25 ((pw_g h5 24 3).toNat)) ∧ (pw_g h5 25 ((pw_g h5 24 3).toNat)) ≤ 57)) at hx22r
        rcases (by omega : x22 = 1 ∨ x22 = 0) with hb23 | hb23
        · skip
          refine pw_if E (pc' := 68) rfl (by decide) (by omega) (by omega) ?_ ?_
          · intro hc24
            change x22 = (0 : Int) at hc24
            exfalso; omega
          · intro hc25
            change ¬ (x22 = (0 : Int)) at hc25
            refine pw_ld E (pc' := 32) (st' := [.ref 40]) rfl (fun _ => rfl) ?_
            refine pw_ld E (pc' := 33) (st' := [.ref 40, .ref 40]) rfl (fun _ => rfl) ?_
            refine pw_getI2 I5 E (c := 24) (k := 5) (pc' := 36) rfl rfl rfl rfl rfl rfl (fun hf26a hf26b => ?_)
            refine pw_bip E (pc' := 38) rfl rfl (by decide) ?_
            refine pw_mul E (pc' := 39) rfl rfl ?_
            refine pw_nmE (fun x27 hx27a hx27b x27e => ?_)
            change (pw_g h5 24 5 * 10 < -2147483648 ∨ 2147483647 < pw_g h5 24 5 * 10) ∨ x27 = pw_g h5 24 5 * 10 at x27e
            refine pw_ld E (pc' := 40) (st' := [.ref 40, pw_i x27, .ref 40]) rfl (fun _ => rfl) ?_
            refine pw_getR (b := 41) I5 E (c := 24) (k := 0) (pc' := 43) rfl rfl rfl rfl rfl rfl rfl ?_
            refine pw_ld E (pc' := 44) (st' := [.ref 40, .ref 41, pw_i x27, .ref 40]) rfl (fun _ => rfl) ?_
            refine pw_getI2 I5 E (c := 24) (k := 3) (pc' := 47) rfl rfl rfl rfl rfl rfl (fun hf28a hf28b => ?_)
            refine pw_ald2 I5 E (c := 25) (pc' := 48) rfl rfl rfl (by decide) rfl (by decide) (by omega) (by omega) rfl (fun hf29a hf29b => ?_)
            refine pw_bip E (pc' := 50) rfl rfl (by decide) ?_
            refine pw_sub E (pc' := 51) rfl rfl ?_
            refine pw_add E (pc' := 52) rfl rfl ?_
            refine pw_nmE (fun x30 hx30a hx30b x30e => ?_)
            change (x27 + (pw_g h5 25 ((pw_g h5 24 3).toNat) - 48) < -2147483648 ∨ 2147483647 < x27 + (pw_g h5 25 ((pw_g h5 24 3).toNat) - 48)) ∨ x30 = x27 + (pw_g h5 25 ((pw_g h5 24 3).toNat) - 48) at x30e
            refine pw_putI I5 E (c := 24) (k := 5) (pc' := 55) rfl rfl rfl rfl (by omega) (by omega) (by omega) (by omega) rfl rfl ?_
            intro h31I h31E
            generalize h31w : pw_w h5 24 5 (pw_i x30) = h31 at h31I h31E ⊢
            have h31F := E5.tr (h31E.wk (W' := [24]) (by first | rfl | simp))
            refine pw_ld E (pc' := 56) (st' := [.ref 40]) rfl (fun _ => rfl) ?_
            refine pw_ld E (pc' := 57) (st' := [.ref 40, .ref 40]) rfl (fun _ => rfl) ?_
            have he33 : pw_g h31 24 3 = pw_g h5 24 3 := by rw [← h31w]; exact pw_g_ne (by omega)
            refine pw_getI2 h31I E (c := 24) (k := 3) (pc' := 60) rfl rfl rfl rfl rfl rfl (fun hf32a hf32b => ?_)
            refine pw_ld E (pc' := 61) (st' := [pw_i 1, pw_i (pw_g h31 24 3), .ref 40]) rfl (fun _ => rfl) ?_
            refine pw_add E (pc' := 62) rfl rfl ?_
            refine pw_putI h31I E (c := 24) (k := 3) (pc' := 65) rfl rfl rfl rfl (by omega) (by omega) (by omega) (by omega) rfl rfl ?_
            intro h34I h34E
            generalize h34w : pw_w h31 24 3 (pw_i ((pw_g h31 24 3) + 1)) = h34 at h34I h34E ⊢
            have h34F := h31F.tr (h34E.wk (W' := [24]) (by first | rfl | simp))
            refine pw_goto E (pc' := 5) rfl (by decide) ?_
            have he35 : pw_g h34 24 3 = (pw_g h31 24 3) + 1 := by rw [← h34w]; exact pw_g_eq (c := 24) (k := 3) h31I rfl rfl (by omega) (by omega)
            have he36 : pw_g h34 24 1 = pw_g h31 24 1 := by rw [← h34w]; exact pw_g_ne (by omega)
            have he37 : pw_g h31 24 1 = pw_g h5 24 1 := by rw [← h31w]; exact pw_g_ne (by omega)
            have he38 : pw_g h34 24 2 = pw_g h31 24 2 := by rw [← h34w]; exact pw_g_ne (by omega)
            have he39 : pw_g h31 24 2 = pw_g h5 24 2 := by rw [← h31w]; exact pw_g_ne (by omega)
            have he40 : pw_g h34 24 5 = pw_g h31 24 5 := by rw [← h34w]; exact pw_g_ne (by omega)
            have he41 : pw_g h31 24 5 = x30 := by rw [← h31w]; exact pw_g_eq (c := 24) (k := 5) I5 rfl rfl (by omega) (by omega)
            exact ih5 _ (by omega)  h34 h34I h34F  (by omega) (by omega) (by omega) (by omega) rfl
        · skip
          have hne : pw_g h 24 3 + 1 ≤ pw_g h5 24 3 := by
            by_cases hq : pw_g h5 24 3 = pw_g h 24 3
            · rw [hq, pw_Eg (c := 25) I E5 rfl rfl _] at hx22r
              omega
            · omega
          refine pw_if E (pc' := 68) rfl (by decide) (by omega) (by omega) ?_ ?_
          · intro hc43
            change x22 = (0 : Int) at hc43
            refine pw_ld E (pc' := 69) (st' := [.ref 40]) rfl (fun _ => rfl) ?_
            refine pw_ld E (pc' := 70) (st' := [.ref 40, .ref 40]) rfl (fun _ => rfl) ?_
            refine pw_getI2 I5 E (c := 24) (k := 3) (pc' := 73) rfl rfl rfl rfl rfl rfl (fun hf44a hf44b => ?_)
            refine pw_ld E (pc' := 74) (st' := [.ref 40, pw_i (pw_g h5 24 3), .ref 40]) rfl (fun _ => rfl) ?_
            refine pw_getI2 I5 E (c := 24) (k := 2) (pc' := 77) rfl rfl rfl rfl rfl rfl (fun hf45a hf45b => ?_)
            refine pw_sub E (pc' := 78) rfl rfl ?_
            refine pw_ld E (pc' := 79) (st' := [pw_i 4, pw_i ((pw_g h5 24 3) - (pw_g h5 24 2)), .ref 40]) rfl (fun _ => rfl) ?_
            refine pw_if2 E (pc' := 86) rfl (by decide) (by omega) (by omega) (by decide) (by decide) ?_ ?_
            · intro hc46
              change (4 : Int) < (pw_g h5 24 3) - (pw_g h5 24 2) at hc46
              refine pw_ld E (pc' := 87) (st' := [pw_i 0, .ref 40]) rfl (fun _ => rfl) ?_
              refine pw_putI I5 E (c := 24) (k := 4) (pc' := 90) rfl rfl rfl rfl (by omega) (by omega) (by omega) (by omega) rfl rfl ?_
              intro h47I h47E
              generalize h47w : pw_w h5 24 4 (pw_i 0) = h47 at h47I h47E ⊢
              have h47F := E5.tr (h47E.wk (W' := [24]) (by first | rfl | simp))
              have he48 : pw_g h47 24 3 = pw_g h5 24 3 := by rw [← h47w]; exact pw_g_ne (by omega)
              have he49 : pw_g h47 24 4 = 0 := by rw [← h47w]; exact pw_g_eq (c := 24) (k := 4) I5 rfl rfl (by omega) (by omega)
              have he50 : pw_g h47 24 5 = pw_g h5 24 5 := by rw [← h47w]; exact pw_g_ne (by omega)
              refine pw_vret E rfl ?_
              exact ⟨h47I, h47F, ⟨by omega, rfl⟩⟩
            · intro hc51
              change ¬ ((4 : Int) < (pw_g h5 24 3) - (pw_g h5 24 2)) at hc51
              refine pw_ld E (pc' := 83) (st' := [pw_i 2, .ref 40]) rfl (fun _ => rfl) ?_
              refine pw_goto E (pc' := 87) rfl (by decide) ?_
              refine pw_putI I5 E (c := 24) (k := 4) (pc' := 90) rfl rfl rfl rfl (by omega) (by omega) (by omega) (by omega) rfl rfl ?_
              intro h52I h52E
              generalize h52w : pw_w h5 24 4 (pw_i 2) = h52 at h52I h52E ⊢
              have h52F := E5.tr (h52E.wk (W' := [24]) (by first | rfl | simp))
              have he53 : pw_g h52 24 3 = pw_g h5 24 3 := by rw [← h52w]; exact pw_g_ne (by omega)
              have he54 : pw_g h52 24 4 = 2 := by rw [← h52w]; exact pw_g_eq (c := 24) (k := 4) I5 rfl rfl (by omega) (by omega)
              have he55 : pw_g h52 24 5 = pw_g h5 24 5 := by rw [← h52w]; exact pw_g_ne (by omega)
              refine pw_vret E rfl ?_
              exact ⟨h52I, h52F, ⟨by omega, rfl⟩⟩
          · intro hc56
            change ¬ (x22 = (0 : Int)) at hc56
            exfalso; omega
  have he57 : pw_g h1 24 3 = pw_g h 24 3 := by rw [← h1w]; exact pw_g_ne (by omega)
  have he58 : pw_g h1 24 1 = pw_g h 24 1 := by rw [← h1w]; exact pw_g_ne (by omega)
  have he59 : pw_g h1 24 2 = pw_g h 24 2 := by rw [← h1w]; exact pw_g_ne (by omega)
  have he60 : pw_g h1 24 5 = 0 := by rw [← h1w]; exact pw_g_eq (c := 24) (k := 5) I rfl rfl (by omega) (by omega)
  exact L5 _  h1 h1I h1F  (by omega) (by omega) (by omega) (by omega) rfl
end
