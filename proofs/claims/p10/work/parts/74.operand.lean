/-! the Readers: an operand (printed by wip/tool/reader5.py) -/
set_option maxHeartbeats 4000000 in
theorem cm_47_26 {X : List (Nat × List Value)} {d : Nat} {h : pm_H} (hd : 3 ≤ d) (I : pw_I h) (hX : pw_Xk X) {T : Int} (P : pw_P 26 27 h T) : pw X d h 47 0 [some (.ref 42), some (.ref 40), some (.ref 46), none, none, none, none] [] (fun h' v => pw_I h' ∧ pw_E [26, 27, 30, 33, 36] h h' ∧ pw_P 26 27 h' (T + 1) ∧ ∃ a : Int, v = .inl (some (pw_i a)) ∧ 0 ≤ a ∧ a ≤ 5 ∧ (pw_g h 24 4 ≠ 4 ∨ a = 1)) := by
  have E : pm_ent 47 = some (3, 7, 5, 0, pmc_47) := rfl
  have E0 : pw_E [26, 27, 30, 33, 36] h h := pw_E.rf _ _
  obtain ⟨b1, b2, b3⟩ := pw_Pb P
  have K158 : ∀ (nt opn nb fa w : Int), -2147483648 ≤ w → w ≤ 2147483647 → pw_g h 24 4 ≠ 4 → pw X d h 47 158 [some (.ref 42), some (.ref 40), some (.ref 46), some (pw_i nt), some (pw_i opn), some (pw_i nb), some (pw_i fa)] [pw_i w, pw_i (pw_g h 26 8), .ref 46] (fun h' v => pw_I h' ∧ pw_E [26, 27, 30, 33, 36] h h' ∧ pw_P 26 27 h' (T + 1) ∧ ∃ a : Int, v = .inl (some (pw_i a)) ∧ 0 ≤ a ∧ a ≤ 5 ∧ (pw_g h 24 4 ≠ 4 ∨ a = 1)) := by
    intro nt opn nb fa w w1 w2 hk4
    have l8 := pw_gI (c := 26) (k := 8) I rfl rfl
    obtain ⟨f1l, f1h, -⟩ := pw_obj (c := 30) I rfl
    refine pw_call (m' := 71) (As := [.ref 46, pw_i (pw_g h 26 8), pw_i w]) (rest := []) (ls'' := [some (.ref 46), some (pw_i (pw_g h 26 8)), some (pw_i w)]) (by omega) E rfl (fun _ => pw_iV rfl rfl rfl rfl (pw_cellI f1h rfl)) (rfl : pm_ent 71 = some (3, 3, 7, 4, pmc_71)) rfl rfl (cm_71_30 (by omega) I _ l8.1 l8.2.1 _ w1 w2) ?_
    rintro h1 v3 ⟨h1I, h1E, h1p, rfl⟩
    refine ⟨_, rfl, ?_⟩
    show pw X d h1 47 161 [some (.ref 42), some (.ref 40), some (.ref 46), some (pw_i nt), some (pw_i opn), some (pw_i nb), some (pw_i fa)] [] _
    have F1 := E0.tr (h1E.wk (W' := [26, 27, 30, 33, 36]) (by first | rfl | simp))
    have g1 : ∀ k, pw_g h1 26 k = pw_g h 26 k := fun k => pw_Eg (c := 26) I h1E rfl rfl k
    have w1 : ∀ j, pw_g h1 27 j = pw_g h 27 j := fun k => pw_Eg (c := 27) I h1E rfl rfl k
    have J1 : pw_J 26 27 h1 (pw_g h1 26 5) (pw_g h1 26 6) := by
      rw [g1 5, g1 6]
      exact pw_Jof (h := h) P.1 w1 (by rw [g1 4])
    have p2 := P.2.1
    have p3 := P.2.2
    have g14 := g1 4
    have g16 := g1 6
    refine pw_ld E (pc' := 162) (st' := [.ref 42]) rfl (fun _ => rfl) ?_
    refine pw_ld E (pc' := 163) (st' := [.ref 46, .ref 42]) rfl (fun _ => rfl) ?_
    obtain ⟨f2l, f2h, -⟩ := pw_obj (c := 26) h1I rfl
    refine pw_call (m' := 49) (As := [.ref 42, .ref 46]) (rest := []) (ls'' := [some (.ref 42), some (.ref 46)]) (by omega) E rfl (fun _ => pw_iV rfl rfl rfl rfl (pw_cellI f2h rfl)) (rfl : pm_ent 49 = some (2, 2, 5, 4, pmc_49)) rfl rfl (cm_49_26 (by omega) _ h1I rfl J1 (by omega)) ?_
    rintro h2 v4 ⟨h2I, h2E, ⟨h2J, h2p, h27, h26, h28⟩, rfl⟩
    refine ⟨_, rfl, ?_⟩
    show pw X d h2 47 166 [some (.ref 42), some (.ref 40), some (.ref 46), some (pw_i nt), some (pw_i opn), some (pw_i nb), some (pw_i fa)] [] _
    have F2 := F1.tr (h2E.wk (W' := [26, 27, 30, 33, 36]) (by first | rfl | simp))
    refine pw_ld E (pc' := 167) (st' := [pw_i 0]) rfl (fun _ => rfl) ?_
    refine pw_iret E rfl ?_
    exact ⟨h2I, F2, ⟨h2J, by omega, by omega⟩, ⟨_, rfl, by omega, by omega, Or.inl hk4⟩⟩
  have K135 : ∀ (nt opn nb fa : Int), (nt = 0 ∨ (nt = 1 ∧ pw_g h 24 4 = 1)) → (opn = 0 ∨ (opn = 1 ∧ pw_g h 24 4 = 3)) → (nb = 0 ∨ (nb = 1 ∧ pw_g h 24 4 = 2)) → -1 ≤ fa → fa ≤ 60 → (pw_g h 24 4 = 1 ∨ fa = -1) → pw_g h 24 4 ≠ 4 → pw X d h 47 135 [some (.ref 42), some (.ref 40), some (.ref 46), some (pw_i nt), some (pw_i opn), some (pw_i nb), some (pw_i fa)] [] (fun h' v => pw_I h' ∧ pw_E [26, 27, 30, 33, 36] h h' ∧ pw_P 26 27 h' (T + 1) ∧ ∃ a : Int, v = .inl (some (pw_i a)) ∧ 0 ≤ a ∧ a ≤ 5 ∧ (pw_g h 24 4 ≠ 4 ∨ a = 1)) := by
    intro nt opn nb fa y1 y2 y3 y4 y5 y6 hk4
    refine pw_ld E (pc' := 136) (st' := [.ref 46]) rfl (fun _ => rfl) ?_
    refine pw_ld E (pc' := 137) (st' := [.ref 42, .ref 46]) rfl (fun _ => rfl) ?_
    refine pw_getI I E (c := 26) (k := 8) (pc' := 140) rfl rfl rfl rfl rfl rfl (fun ga1 ga2 ga3 ga4 => ?_)
    refine pw_ld E (pc' := 142) (st' := [pw_i nb, pw_i (pw_g h 26 8), .ref 46]) rfl (fun _ => rfl) ?_
    refine pw_if E (pc' := 152) rfl (by decide) (by omega) (by omega) ?_ ?_
    · intro _
      refine pw_sip E (pc' := 155) rfl rfl (by decide) ?_
      refine pw_ld E (pc' := 157) (st' := [pw_i fa, pw_i 10000, pw_i (pw_g h 26 8), .ref 46]) rfl (fun _ => rfl) ?_
      refine pw_add E (pc' := 158) rfl rfl ?_
      exact K158 nt opn nb fa _ (by omega) (by omega) hk4
    · intro _
      refine pw_ld E (pc' := 146) (st' := [.ref 40, pw_i (pw_g h 26 8), .ref 46]) rfl (fun _ => rfl) ?_
      obtain ⟨f1l, f1h, -⟩ := pw_obj (c := 24) I rfl
      refine pw_call (m' := 110) (As := [.ref 40]) (rest := [pw_i (pw_g h 26 8), .ref 46]) (ls'' := [some (.ref 40)]) (by omega) E rfl (fun _ => pw_iV rfl rfl rfl rfl (pw_cellI f1h rfl)) (rfl : pm_ent 110 = some (1, 1, 9, 0, pmc_110)) rfl rfl (cm_110 (by omega) I) ?_
      rintro u1 w1 ⟨rfl, x, rfl, hxa, hxb⟩
      refine ⟨_, rfl, ?_⟩
      show pw X d h 47 149 [some (.ref 42), some (.ref 40), some (.ref 46), some (pw_i nt), some (pw_i opn), some (pw_i nb), some (pw_i fa)] [pw_i x, pw_i (pw_g h 26 8), .ref 46] _
      refine pw_goto E (pc' := 158) rfl (by decide) ?_
      exact K158 nt opn nb fa _ (by omega) (by omega) hk4
  have K89 : ∀ (nt opn nb fa : Int), (nt = 0 ∨ (nt = 1 ∧ pw_g h 24 4 = 1)) → (opn = 0 ∨ (opn = 1 ∧ pw_g h 24 4 = 3)) → (nb = 0 ∨ (nb = 1 ∧ pw_g h 24 4 = 2)) → -1 ≤ fa → fa ≤ 60 → (pw_g h 24 4 = 1 ∨ fa = -1) → (nt ≠ 0 ∨ opn ≠ 0) → pw_g h 26 5 ≤ 4 → pw_g h 24 4 ≠ 4 → pw X d h 47 89 [some (.ref 42), some (.ref 40), some (.ref 46), some (pw_i nt), some (pw_i opn), some (pw_i nb), some (pw_i fa)] [] (fun h' v => pw_I h' ∧ pw_E [26, 27, 30, 33, 36] h h' ∧ pw_P 26 27 h' (T + 1) ∧ ∃ a : Int, v = .inl (some (pw_i a)) ∧ 0 ≤ a ∧ a ≤ 5 ∧ (pw_g h 24 4 ≠ 4 ∨ a = 1)) := by
    intro nt opn nb fa y1 y2 y3 y4 y5 y6 y7 hd4 hk4
    have cs : (nt = 1 ∧ opn = 0) ∨ (nt = 0 ∧ opn = 1) := by omega
    rcases cs with ⟨rfl, rfl⟩ | ⟨rfl, rfl⟩
    · refine pw_ld E (pc' := 90) (st' := [.ref 42]) rfl (fun _ => rfl) ?_
      refine pw_ld E (pc' := 91) (st' := [.ref 42, .ref 42]) rfl (fun _ => rfl) ?_
      refine pw_getI I E (c := 26) (k := 5) (pc' := 94) rfl rfl rfl rfl rfl rfl (fun ga1 ga2 ga3 ga4 => ?_)
      refine pw_ld E (pc' := 95) (st' := [pw_i 1, pw_i (pw_g h 26 5), .ref 42]) rfl (fun _ => rfl) ?_
      refine pw_add E (pc' := 96) rfl rfl ?_
      refine pw_putI I E (c := 26) (k := 5) (pc' := 99) rfl rfl rfl rfl (by omega) (by omega) (by omega) (by omega) rfl rfl ?_
      intro h1I h1E
      generalize h1w : pw_w h 26 5 (pw_i (pw_g h 26 5 + 1)) = h1 at h1I h1E ⊢
      have F1 := E0.tr (h1E.wk (W' := [26, 27, 30, 33, 36]) (by first | rfl | simp))
      have nh1 : ∀ c' k', ¬ (26 = c' ∧ 5 = k') → pw_g h1 c' k' = pw_g h c' k' := fun c' k' hn => by rw [← h1w]; exact pw_g_ne hn
      have eh1 : pw_g h1 26 5 = pw_g h 26 5 + 1 := by rw [← h1w]; exact pw_g_eq (c := 26) (k := 5) I rfl rfl (by omega) (by omega)
      have m16 := nh1 26 6 (by decide)
      refine pw_ld E (pc' := 100) (st' := [.ref 42]) rfl (fun _ => rfl) ?_
      refine pw_ld E (pc' := 101) (st' := [.ref 42, .ref 42]) rfl (fun _ => rfl) ?_
      refine pw_getI h1I E (c := 26) (k := 6) (pc' := 104) rfl rfl rfl rfl rfl rfl (fun gb1 gb2 gb3 gb4 => ?_)
      refine pw_ld E (pc' := 106) (st' := [pw_i 0, pw_i (pw_g h1 26 6), .ref 42]) rfl (fun _ => rfl) ?_
      refine pw_if E (pc' := 113) rfl (by decide) (by omega) (by omega) ?_ ?_
      · intro _
        refine pw_ld E (pc' := 114) (st' := [pw_i 0, pw_i (pw_g h1 26 6), .ref 42]) rfl (fun _ => rfl) ?_
        refine pw_add E (pc' := 115) rfl rfl ?_
        refine pw_putI h1I E (c := 26) (k := 6) (pc' := 118) rfl rfl rfl rfl (by omega) (by omega) (by omega) (by omega) rfl rfl ?_
        intro h2I h2E
        generalize h2w : pw_w h1 26 6 (pw_i (pw_g h1 26 6 + 0)) = h2 at h2I h2E ⊢
        have F2 := F1.tr (h2E.wk (W' := [26, 27, 30, 33, 36]) (by first | rfl | simp))
        have nh2 : ∀ c' k', ¬ (26 = c' ∧ 6 = k') → pw_g h2 c' k' = pw_g h1 c' k' := fun c' k' hn => by rw [← h2w]; exact pw_g_ne hn
        have eh2 : pw_g h2 26 6 = pw_g h1 26 6 + 0 := by rw [← h2w]; exact pw_g_eq (c := 26) (k := 6) h1I rfl rfl (by omega) (by omega)
        have m25 := nh2 26 5 (by decide)
        have m24 := (nh2 26 4 (by decide)).trans (nh1 26 4 (by decide))
        have m21 := (nh2 30 1 (by decide)).trans (nh1 30 1 (by decide))
        have J2 : pw_J 26 27 h2 (pw_g h 26 5) (pw_g h 26 6) := pw_Jof (h := h) P.1 (fun j => (nh2 27 j (by omega)).trans (nh1 27 j (by omega))) (by rw [m24])
        refine pw_ld E (pc' := 119) (st' := [.ref 42]) rfl (fun _ => rfl) ?_
        refine pw_ld E (pc' := 120) (st' := [pw_i 1, .ref 42]) rfl (fun _ => rfl) ?_
        refine pw_if E (pc' := 128) rfl (by decide) (by omega) (by omega) ?_ ?_
        · intro hz
          have hz : (1 : Int) = 0 := hz
          exfalso; omega
        · intro _
          refine pw_bip E (pc' := 125) rfl rfl (by decide) ?_
          refine pw_goto E (pc' := 130) rfl (by decide) ?_
          obtain ⟨f2l, f2h, -⟩ := pw_obj (c := 26) h2I rfl
          refine pw_call (m' := 48) (As := [.ref 42, pw_i 8]) (rest := []) (ls'' := [some (.ref 42), some (pw_i 8)]) (by omega) E rfl (fun _ => pw_iV rfl rfl rfl rfl (pw_cellI f2h rfl)) (rfl : pm_ent 48 = some (2, 2, 5, 4, pmc_48)) rfl rfl (cm_48_26 (by omega) h2I 8 (by decide) (by decide) J2 (Or.inl (by decide)) (fun _ => by omega)) ?_
          rintro h3 v4 ⟨h3I, h3E, ⟨h3J, h3p, h3k⟩, rfl⟩
          refine ⟨_, rfl, ?_⟩
          show pw X d h3 47 133 [some (.ref 42), some (.ref 40), some (.ref 46), some (pw_i 1), some (pw_i 0), some (pw_i nb), some (pw_i fa)] [] _
          have F3 := F2.tr (h3E.wk (W' := [26, 27, 30, 33, 36]) (by first | rfl | simp))
          rw [if_pos (by decide), if_neg (by decide)] at h3J
          have m31 : pw_g h3 30 1 = pw_g h2 30 1 := pw_Eg (c := 30) h2I h3E rfl rfl 1
          have m35 := h3k 5 (by decide)
          have m36 := h3k 6 (by decide)
          have P3 : pw_P 26 27 h3 (T + 1) := by
            obtain ⟨p1, p2, p3⟩ := P
            refine ⟨?_, by omega, by omega⟩
            rw [show pw_g h3 26 5 = pw_g h 26 5 + 1 by omega, show pw_g h3 26 6 = pw_g h 26 6 + 0 by omega]
            exact h3J
          refine pw_ld E (pc' := 134) (st' := [pw_i 0]) rfl (fun _ => rfl) ?_
          refine pw_iret E rfl ?_
          exact ⟨h3I, F3, P3, ⟨_, rfl, by omega, by omega, Or.inl hk4⟩⟩
      · intro hz
        have hz : ¬ ((0 : Int) = 0) := hz
        exfalso; omega
    · refine pw_ld E (pc' := 90) (st' := [.ref 42]) rfl (fun _ => rfl) ?_
      refine pw_ld E (pc' := 91) (st' := [.ref 42, .ref 42]) rfl (fun _ => rfl) ?_
      refine pw_getI I E (c := 26) (k := 5) (pc' := 94) rfl rfl rfl rfl rfl rfl (fun ga1 ga2 ga3 ga4 => ?_)
      refine pw_ld E (pc' := 95) (st' := [pw_i 1, pw_i (pw_g h 26 5), .ref 42]) rfl (fun _ => rfl) ?_
      refine pw_add E (pc' := 96) rfl rfl ?_
      refine pw_putI I E (c := 26) (k := 5) (pc' := 99) rfl rfl rfl rfl (by omega) (by omega) (by omega) (by omega) rfl rfl ?_
      intro h1I h1E
      generalize h1w : pw_w h 26 5 (pw_i (pw_g h 26 5 + 1)) = h1 at h1I h1E ⊢
      have F1 := E0.tr (h1E.wk (W' := [26, 27, 30, 33, 36]) (by first | rfl | simp))
      have nh1 : ∀ c' k', ¬ (26 = c' ∧ 5 = k') → pw_g h1 c' k' = pw_g h c' k' := fun c' k' hn => by rw [← h1w]; exact pw_g_ne hn
      have eh1 : pw_g h1 26 5 = pw_g h 26 5 + 1 := by rw [← h1w]; exact pw_g_eq (c := 26) (k := 5) I rfl rfl (by omega) (by omega)
      have m16 := nh1 26 6 (by decide)
      refine pw_ld E (pc' := 100) (st' := [.ref 42]) rfl (fun _ => rfl) ?_
      refine pw_ld E (pc' := 101) (st' := [.ref 42, .ref 42]) rfl (fun _ => rfl) ?_
      refine pw_getI h1I E (c := 26) (k := 6) (pc' := 104) rfl rfl rfl rfl rfl rfl (fun gb1 gb2 gb3 gb4 => ?_)
      refine pw_ld E (pc' := 106) (st' := [pw_i 1, pw_i (pw_g h1 26 6), .ref 42]) rfl (fun _ => rfl) ?_
      refine pw_if E (pc' := 113) rfl (by decide) (by omega) (by omega) ?_ ?_
      · intro hz
        have hz : (1 : Int) = 0 := hz
        exfalso; omega
      · intro _
        refine pw_ld E (pc' := 110) (st' := [pw_i 1, pw_i (pw_g h1 26 6), .ref 42]) rfl (fun _ => rfl) ?_
        refine pw_goto E (pc' := 114) rfl (by decide) ?_
        refine pw_add E (pc' := 115) rfl rfl ?_
        refine pw_putI h1I E (c := 26) (k := 6) (pc' := 118) rfl rfl rfl rfl (by omega) (by omega) (by omega) (by omega) rfl rfl ?_
        intro h2I h2E
        generalize h2w : pw_w h1 26 6 (pw_i (pw_g h1 26 6 + 1)) = h2 at h2I h2E ⊢
        have F2 := F1.tr (h2E.wk (W' := [26, 27, 30, 33, 36]) (by first | rfl | simp))
        have nh2 : ∀ c' k', ¬ (26 = c' ∧ 6 = k') → pw_g h2 c' k' = pw_g h1 c' k' := fun c' k' hn => by rw [← h2w]; exact pw_g_ne hn
        have eh2 : pw_g h2 26 6 = pw_g h1 26 6 + 1 := by rw [← h2w]; exact pw_g_eq (c := 26) (k := 6) h1I rfl rfl (by omega) (by omega)
        have m25 := nh2 26 5 (by decide)
        have m24 := (nh2 26 4 (by decide)).trans (nh1 26 4 (by decide))
        have m21 := (nh2 30 1 (by decide)).trans (nh1 30 1 (by decide))
        have J2 : pw_J 26 27 h2 (pw_g h 26 5) (pw_g h 26 6) := pw_Jof (h := h) P.1 (fun j => (nh2 27 j (by omega)).trans (nh1 27 j (by omega))) (by rw [m24])
        refine pw_ld E (pc' := 119) (st' := [.ref 42]) rfl (fun _ => rfl) ?_
        refine pw_ld E (pc' := 120) (st' := [pw_i 0, .ref 42]) rfl (fun _ => rfl) ?_
        refine pw_if E (pc' := 128) rfl (by decide) (by omega) (by omega) ?_ ?_
        · intro _
          refine pw_bip E (pc' := 130) rfl rfl (by decide) ?_
          obtain ⟨f2l, f2h, -⟩ := pw_obj (c := 26) h2I rfl
          refine pw_call (m' := 48) (As := [.ref 42, pw_i 9]) (rest := []) (ls'' := [some (.ref 42), some (pw_i 9)]) (by omega) E rfl (fun _ => pw_iV rfl rfl rfl rfl (pw_cellI f2h rfl)) (rfl : pm_ent 48 = some (2, 2, 5, 4, pmc_48)) rfl rfl (cm_48_26 (by omega) h2I 9 (by decide) (by decide) J2 (Or.inl (by decide)) (fun _ => by omega)) ?_
          rintro h3 v4 ⟨h3I, h3E, ⟨h3J, h3p, h3k⟩, rfl⟩
          refine ⟨_, rfl, ?_⟩
          show pw X d h3 47 133 [some (.ref 42), some (.ref 40), some (.ref 46), some (pw_i 0), some (pw_i 1), some (pw_i nb), some (pw_i fa)] [] _
          have F3 := F2.tr (h3E.wk (W' := [26, 27, 30, 33, 36]) (by first | rfl | simp))
          rw [if_pos (by decide), if_pos (by decide)] at h3J
          have m31 : pw_g h3 30 1 = pw_g h2 30 1 := pw_Eg (c := 30) h2I h3E rfl rfl 1
          have m35 := h3k 5 (by decide)
          have m36 := h3k 6 (by decide)
          have P3 : pw_P 26 27 h3 (T + 1) := by
            obtain ⟨p1, p2, p3⟩ := P
            refine ⟨?_, by omega, by omega⟩
            rw [show pw_g h3 26 5 = pw_g h 26 5 + 1 by omega, show pw_g h3 26 6 = pw_g h 26 6 + 1 by omega]
            exact h3J
          refine pw_ld E (pc' := 134) (st' := [pw_i 0]) rfl (fun _ => rfl) ?_
          refine pw_iret E rfl ?_
          exact ⟨h3I, F3, P3, ⟨_, rfl, by omega, by omega, Or.inl hk4⟩⟩
        · intro hz
          have hz : ¬ ((0 : Int) = 0) := hz
          exfalso; omega
  have K70 : ∀ (nt opn nb fa : Int), (nt = 0 ∨ (nt = 1 ∧ pw_g h 24 4 = 1)) → (opn = 0 ∨ (opn = 1 ∧ pw_g h 24 4 = 3)) → (nb = 0 ∨ (nb = 1 ∧ pw_g h 24 4 = 2)) → -1 ≤ fa → fa ≤ 60 → (pw_g h 24 4 = 1 ∨ fa = -1) → pw_g h 24 4 ≠ 4 → pw X d h 47 70 [some (.ref 42), some (.ref 40), some (.ref 46), some (pw_i nt), some (pw_i opn), some (pw_i nb), some (pw_i fa)] [] (fun h' v => pw_I h' ∧ pw_E [26, 27, 30, 33, 36] h h' ∧ pw_P 26 27 h' (T + 1) ∧ ∃ a : Int, v = .inl (some (pw_i a)) ∧ 0 ≤ a ∧ a ≤ 5 ∧ (pw_g h 24 4 ≠ 4 ∨ a = 1)) := by
    intro nt opn nb fa y1 y2 y3 y4 y5 y6 hk4
    refine pw_ld E (pc' := 71) (st' := [.ref 42]) rfl (fun _ => rfl) ?_
    refine pw_getI I E (c := 26) (k := 5) (pc' := 74) rfl rfl rfl rfl rfl rfl (fun ga1 ga2 ga3 ga4 => ?_)
    refine pw_ld E (pc' := 75) (st' := [pw_i 5, pw_i (pw_g h 26 5)]) rfl (fun _ => rfl) ?_
    refine pw_if2 E (pc' := 80) rfl (by decide) (by omega) (by omega) (by decide) (by decide) ?_ ?_
    · intro hc
      have hc : pw_g h 26 5 < 5 := hc
      refine pw_ld E (pc' := 81) (st' := [pw_i nt]) rfl (fun _ => rfl) ?_
      refine pw_if E (pc' := 89) rfl (by decide) (by omega) (by omega) ?_ ?_
      · intro hn
        have hn : nt ≠ 0 := hn
        exact K89 nt opn nb fa y1 y2 y3 y4 y5 y6 (Or.inl hn) (by omega) hk4
      · intro _
        refine pw_ld E (pc' := 86) (st' := [pw_i opn]) rfl (fun _ => rfl) ?_
        refine pw_if E (pc' := 135) rfl (by decide) (by omega) (by omega) ?_ ?_
        · intro _
          exact K135 nt opn nb fa y1 y2 y3 y4 y5 y6 hk4
        · intro hn
          have hn : ¬ (opn = 0) := hn
          exact K89 nt opn nb fa y1 y2 y3 y4 y5 y6 (Or.inr hn) (by omega) hk4
    · intro _
      refine pw_ld E (pc' := 79) (st' := [pw_i 5]) rfl (fun _ => rfl) ?_
      refine pw_iret E rfl ?_
      exact ⟨I, E0, P.wk (by omega), ⟨_, rfl, by omega, by omega, Or.inl hk4⟩⟩
  have K48 : ∀ (nt opn nb fa : Int), (nt = 0 ∨ (nt = 1 ∧ pw_g h 24 4 = 1)) → (opn = 0 ∨ (opn = 1 ∧ pw_g h 24 4 = 3)) → (nb = 0 ∨ (nb = 1 ∧ pw_g h 24 4 = 2)) → -1 ≤ fa → fa ≤ 60 → (pw_g h 24 4 = 1 ∨ fa = -1) → pw X d h 47 48 [some (.ref 42), some (.ref 40), some (.ref 46), some (pw_i nt), some (pw_i opn), some (pw_i nb), some (pw_i fa)] [] (fun h' v => pw_I h' ∧ pw_E [26, 27, 30, 33, 36] h h' ∧ pw_P 26 27 h' (T + 1) ∧ ∃ a : Int, v = .inl (some (pw_i a)) ∧ 0 ≤ a ∧ a ≤ 5 ∧ (pw_g h 24 4 ≠ 4 ∨ a = 1)) := by
    intro nt opn nb fa y1 y2 y3 y4 y5 y6
    refine pw_ld E (pc' := 49) (st' := [pw_i nt]) rfl (fun _ => rfl) ?_
    refine pw_if E (pc' := 70) rfl (by decide) (by omega) (by omega) ?_ ?_
    · intro z
      have z : nt ≠ 0 := z
      exact K70 nt opn nb fa y1 y2 y3 y4 y5 y6 (by omega)
    · intro z1
      have z1 : ¬ (nt ≠ 0) := z1
      refine pw_ld E (pc' := 54) (st' := [pw_i opn]) rfl (fun _ => rfl) ?_
      refine pw_if E (pc' := 70) rfl (by decide) (by omega) (by omega) ?_ ?_
      · intro z
        have z : opn ≠ 0 := z
        exact K70 nt opn nb fa y1 y2 y3 y4 y5 y6 (by omega)
      · intro z2
        have z2 : ¬ (opn ≠ 0) := z2
        refine pw_ld E (pc' := 59) (st' := [pw_i nb]) rfl (fun _ => rfl) ?_
        refine pw_if E (pc' := 70) rfl (by decide) (by omega) (by omega) ?_ ?_
        · intro z
          have z : nb ≠ 0 := z
          exact K70 nt opn nb fa y1 y2 y3 y4 y5 y6 (by omega)
        · intro z3
          have z3 : ¬ (nb ≠ 0) := z3
          refine pw_ld E (pc' := 64) (st' := [pw_i fa]) rfl (fun _ => rfl) ?_
          refine pw_ld E (pc' := 65) (st' := [pw_i (-1), pw_i fa]) rfl (fun _ => rfl) ?_
          refine pw_if2 E (pc' := 70) rfl (by decide) (by omega) (by omega) (by decide) (by decide) ?_ ?_
          · intro z
            have z : fa ≠ -1 := z
            exact K70 nt opn nb fa y1 y2 y3 y4 y5 y6 (by omega)
          · intro _
            refine pw_ld E (pc' := 69) (st' := [pw_i 1]) rfl (fun _ => rfl) ?_
            refine pw_iret E rfl ?_
            exact ⟨I, E0, P.wk (by omega), ⟨_, rfl, by omega, by omega, Or.inr rfl⟩⟩
  have K38 : ∀ (nt opn nb : Int), (nt = 0 ∨ (nt = 1 ∧ pw_g h 24 4 = 1)) → (opn = 0 ∨ (opn = 1 ∧ pw_g h 24 4 = 3)) → (nb = 0 ∨ (nb = 1 ∧ pw_g h 24 4 = 2)) → pw X d h 47 38 [some (.ref 42), some (.ref 40), some (.ref 46), some (pw_i nt), some (pw_i opn), some (pw_i nb), none] [] (fun h' v => pw_I h' ∧ pw_E [26, 27, 30, 33, 36] h h' ∧ pw_P 26 27 h' (T + 1) ∧ ∃ a : Int, v = .inl (some (pw_i a)) ∧ 0 ≤ a ∧ a ≤ 5 ∧ (pw_g h 24 4 ≠ 4 ∨ a = 1)) := by
    intro nt opn nb y1 y2 y3
    refine pw_ld E (pc' := 39) (st' := [.ref 40]) rfl (fun _ => rfl) ?_
    refine pw_ld E (pc' := 40) (st' := [.ref 42, .ref 40]) rfl (fun _ => rfl) ?_
    refine pw_getR (b := 5) I E (c := 26) (k := 1) (pc' := 43) rfl rfl rfl rfl rfl rfl rfl ?_
    obtain ⟨f1l, f1h, -⟩ := pw_obj (c := 24) I rfl
    refine pw_call (m' := 108) (As := [.ref 40, .ref 5]) (rest := []) (ls'' := [some (.ref 40), some (.ref 5), none, none, none, none, none]) (by omega) E rfl (fun _ => pw_iV rfl rfl rfl rfl (pw_cellI f1h rfl)) (rfl : pm_ent 108 = some (2, 7, 9, 0, pmc_108)) rfl rfl (cm_108_24 (by omega) I hX 5 (by decide) (by decide)) ?_
    rintro u1 w1 ⟨rfl, x, rfl, hxa, hxb, hxr⟩
    refine ⟨_, rfl, ?_⟩
    show pw X d h 47 46 [some (.ref 42), some (.ref 40), some (.ref 46), some (pw_i nt), some (pw_i opn), some (pw_i nb), none] [pw_i x] _
    refine pw_ist E (pc' := 48) (ls' := [some (.ref 42), some (.ref 40), some (.ref 46), some (pw_i nt), some (pw_i opn), some (pw_i nb), some (pw_i x)]) rfl rfl rfl rfl ?_
    exact K48 nt opn nb x y1 y2 y3 hxa hxb hxr
  have K15 : ∀ (nt : Int), (nt = 0 ∨ (nt = 1 ∧ pw_g h 24 4 = 1)) → pw X d h 47 15 [some (.ref 42), some (.ref 40), some (.ref 46), some (pw_i nt), none, none, none] [] (fun h' v => pw_I h' ∧ pw_E [26, 27, 30, 33, 36] h h' ∧ pw_P 26 27 h' (T + 1) ∧ ∃ a : Int, v = .inl (some (pw_i a)) ∧ 0 ≤ a ∧ a ≤ 5 ∧ (pw_g h 24 4 ≠ 4 ∨ a = 1)) := by
    intro nt y1
    refine pw_ld E (pc' := 16) (st' := [.ref 40]) rfl (fun _ => rfl) ?_
    refine pw_bip E (pc' := 18) rfl rfl (by decide) ?_
    obtain ⟨f1l, f1h, -⟩ := pw_obj (c := 24) I rfl
    refine pw_call (m' := 109) (As := [.ref 40, pw_i 40]) (rest := []) (ls'' := [some (.ref 40), some (pw_i 40)]) (by omega) E rfl (fun _ => pw_iV rfl rfl rfl rfl (pw_cellI f1h rfl)) (rfl : pm_ent 109 = some (2, 2, 9, 1, pmc_109)) rfl rfl (cm_109_24 (by omega) I 40 (by decide) (by decide)) ?_
    rintro u1 w1 ⟨rfl, x, rfl, hxa, hxb, hxr⟩
    refine ⟨_, rfl, ?_⟩
    show pw X d h 47 21 [some (.ref 42), some (.ref 40), some (.ref 46), some (pw_i nt), none, none, none] [pw_i x] _
    refine pw_ist E (pc' := 23) (ls' := [some (.ref 42), some (.ref 40), some (.ref 46), some (pw_i nt), some (pw_i x), none, none]) rfl rfl rfl rfl ?_
    refine pw_ld E (pc' := 24) (st' := [.ref 40]) rfl (fun _ => rfl) ?_
    obtain ⟨f2l, f2h, -⟩ := pw_obj (c := 24) I rfl
    refine pw_call (m' := 107) (As := [.ref 40]) (rest := []) (ls'' := [some (.ref 40)]) (by omega) E rfl (fun _ => pw_iV rfl rfl rfl rfl (pw_cellI f2h rfl)) (rfl : pm_ent 107 = some (1, 1, 9, 0, pmc_107)) rfl rfl (cm_107_24 (by omega) I) ?_
    rintro u2 w2 ⟨rfl, y, rfl, hya, hyb, hyr⟩
    refine ⟨_, rfl, ?_⟩
    show pw X d h 47 27 [some (.ref 42), some (.ref 40), some (.ref 46), some (pw_i nt), some (pw_i x), none, none] [pw_i y] _
    refine pw_ld E (pc' := 28) (st' := [pw_i 2, pw_i y]) rfl (fun _ => rfl) ?_
    refine pw_if2 E (pc' := 35) rfl (by decide) (by omega) (by omega) (by decide) (by decide) ?_ ?_
    · intro _
      refine pw_ld E (pc' := 36) (st' := [pw_i 0]) rfl (fun _ => rfl) ?_
      refine pw_ist E (pc' := 38) (ls' := [some (.ref 42), some (.ref 40), some (.ref 46), some (pw_i nt), some (pw_i x), some (pw_i 0), none]) rfl rfl rfl rfl ?_
      exact K38 nt x 0 y1 (by omega) (by omega)
    · intro z
      have z : ¬ (y ≠ 2) := z
      refine pw_ld E (pc' := 32) (st' := [pw_i 1]) rfl (fun _ => rfl) ?_
      refine pw_goto E (pc' := 36) rfl (by decide) ?_
      refine pw_ist E (pc' := 38) (ls' := [some (.ref 42), some (.ref 40), some (.ref 46), some (pw_i nt), some (pw_i x), some (pw_i 1), none]) rfl rfl rfl rfl ?_
      exact K38 nt x 1 y1 (by omega) (by omega)
  refine pw_ld E (pc' := 1) (st' := [.ref 40]) rfl (fun _ => rfl) ?_
  refine pw_ld E (pc' := 3) (st' := [.ref 10, .ref 40]) rfl (fun _ => rfl) ?_
  obtain ⟨f1l, f1h, -⟩ := pw_obj (c := 24) I rfl
  refine pw_call (m' := 108) (As := [.ref 40, .ref 10]) (rest := []) (ls'' := [some (.ref 40), some (.ref 10), none, none, none, none, none]) (by omega) E rfl (fun _ => pw_iV rfl rfl rfl rfl (pw_cellI f1h rfl)) (rfl : pm_ent 108 = some (2, 7, 9, 0, pmc_108)) rfl rfl (cm_108_24 (by omega) I hX 10 (by decide) (by decide)) ?_
  rintro u1 w1 ⟨rfl, x, rfl, hxa, hxb, hxr⟩
  refine ⟨_, rfl, ?_⟩
  show pw X d h 47 6 [some (.ref 42), some (.ref 40), some (.ref 46), none, none, none, none] [pw_i x] _
  refine pw_if E (pc' := 13) rfl (by decide) (by omega) (by omega) ?_ ?_
  · intro _
    refine pw_ld E (pc' := 14) (st' := [pw_i 0]) rfl (fun _ => rfl) ?_
    refine pw_istn E (pc' := 15) (ls' := [some (.ref 42), some (.ref 40), some (.ref 46), some (pw_i 0), none, none, none]) rfl rfl rfl rfl ?_
    exact K15 0 (by omega)
  · intro z
    have z : ¬ (x ≠ 0) := z
    refine pw_ld E (pc' := 10) (st' := [pw_i 1]) rfl (fun _ => rfl) ?_
    refine pw_goto E (pc' := 14) rfl (by decide) ?_
    refine pw_istn E (pc' := 15) (ls' := [some (.ref 42), some (.ref 40), some (.ref 46), some (pw_i 1), none, none, none]) rfl rfl rfl rfl ?_
    exact K15 1 (by omega)
set_option maxHeartbeats 4000000 in
theorem cm_47_28 {X : List (Nat × List Value)} {d : Nat} {h : pm_H} (hd : 3 ≤ d) (I : pw_I h) (hX : pw_Xk X) {T : Int} (P : pw_P 28 29 h T) : pw X d h 47 0 [some (.ref 44), some (.ref 40), some (.ref 46), none, none, none, none] [] (fun h' v => pw_I h' ∧ pw_E [28, 29, 30, 33, 36] h h' ∧ pw_P 28 29 h' (T + 1) ∧ ∃ a : Int, v = .inl (some (pw_i a)) ∧ 0 ≤ a ∧ a ≤ 5 ∧ (pw_g h 24 4 ≠ 4 ∨ a = 1)) := by
  have E : pm_ent 47 = some (3, 7, 5, 0, pmc_47) := rfl
  have E0 : pw_E [28, 29, 30, 33, 36] h h := pw_E.rf _ _
  obtain ⟨b1, b2, b3⟩ := pw_Pb P
  have K158 : ∀ (nt opn nb fa w : Int), -2147483648 ≤ w → w ≤ 2147483647 → pw_g h 24 4 ≠ 4 → pw X d h 47 158 [some (.ref 44), some (.ref 40), some (.ref 46), some (pw_i nt), some (pw_i opn), some (pw_i nb), some (pw_i fa)] [pw_i w, pw_i (pw_g h 28 8), .ref 46] (fun h' v => pw_I h' ∧ pw_E [28, 29, 30, 33, 36] h h' ∧ pw_P 28 29 h' (T + 1) ∧ ∃ a : Int, v = .inl (some (pw_i a)) ∧ 0 ≤ a ∧ a ≤ 5 ∧ (pw_g h 24 4 ≠ 4 ∨ a = 1)) := by
    intro nt opn nb fa w w1 w2 hk4
    have l8 := pw_gI (c := 28) (k := 8) I rfl rfl
    obtain ⟨f1l, f1h, -⟩ := pw_obj (c := 30) I rfl
    refine pw_call (m' := 71) (As := [.ref 46, pw_i (pw_g h 28 8), pw_i w]) (rest := []) (ls'' := [some (.ref 46), some (pw_i (pw_g h 28 8)), some (pw_i w)]) (by omega) E rfl (fun _ => pw_iV rfl rfl rfl rfl (pw_cellI f1h rfl)) (rfl : pm_ent 71 = some (3, 3, 7, 4, pmc_71)) rfl rfl (cm_71_30 (by omega) I _ l8.1 l8.2.1 _ w1 w2) ?_
    rintro h1 v3 ⟨h1I, h1E, h1p, rfl⟩
    refine ⟨_, rfl, ?_⟩
    show pw X d h1 47 161 [some (.ref 44), some (.ref 40), some (.ref 46), some (pw_i nt), some (pw_i opn), some (pw_i nb), some (pw_i fa)] [] _
    have F1 := E0.tr (h1E.wk (W' := [28, 29, 30, 33, 36]) (by first | rfl | simp))
    have g1 : ∀ k, pw_g h1 28 k = pw_g h 28 k := fun k => pw_Eg (c := 28) I h1E rfl rfl k
    have w1 : ∀ j, pw_g h1 29 j = pw_g h 29 j := fun k => pw_Eg (c := 29) I h1E rfl rfl k
    have J1 : pw_J 28 29 h1 (pw_g h1 28 5) (pw_g h1 28 6) := by
      rw [g1 5, g1 6]
      exact pw_Jof (h := h) P.1 w1 (by rw [g1 4])
    have p2 := P.2.1
    have p3 := P.2.2
    have g14 := g1 4
    have g16 := g1 6
    refine pw_ld E (pc' := 162) (st' := [.ref 44]) rfl (fun _ => rfl) ?_
    refine pw_ld E (pc' := 163) (st' := [.ref 46, .ref 44]) rfl (fun _ => rfl) ?_
    obtain ⟨f2l, f2h, -⟩ := pw_obj (c := 28) h1I rfl
    refine pw_call (m' := 49) (As := [.ref 44, .ref 46]) (rest := []) (ls'' := [some (.ref 44), some (.ref 46)]) (by omega) E rfl (fun _ => pw_iV rfl rfl rfl rfl (pw_cellI f2h rfl)) (rfl : pm_ent 49 = some (2, 2, 5, 4, pmc_49)) rfl rfl (cm_49_28 (by omega) _ h1I rfl J1 (by omega)) ?_
    rintro h2 v4 ⟨h2I, h2E, ⟨h2J, h2p, h27, h26, h28⟩, rfl⟩
    refine ⟨_, rfl, ?_⟩
    show pw X d h2 47 166 [some (.ref 44), some (.ref 40), some (.ref 46), some (pw_i nt), some (pw_i opn), some (pw_i nb), some (pw_i fa)] [] _
    have F2 := F1.tr (h2E.wk (W' := [28, 29, 30, 33, 36]) (by first | rfl | simp))
    refine pw_ld E (pc' := 167) (st' := [pw_i 0]) rfl (fun _ => rfl) ?_
    refine pw_iret E rfl ?_
    exact ⟨h2I, F2, ⟨h2J, by omega, by omega⟩, ⟨_, rfl, by omega, by omega, Or.inl hk4⟩⟩
  have K135 : ∀ (nt opn nb fa : Int), (nt = 0 ∨ (nt = 1 ∧ pw_g h 24 4 = 1)) → (opn = 0 ∨ (opn = 1 ∧ pw_g h 24 4 = 3)) → (nb = 0 ∨ (nb = 1 ∧ pw_g h 24 4 = 2)) → -1 ≤ fa → fa ≤ 60 → (pw_g h 24 4 = 1 ∨ fa = -1) → pw_g h 24 4 ≠ 4 → pw X d h 47 135 [some (.ref 44), some (.ref 40), some (.ref 46), some (pw_i nt), some (pw_i opn), some (pw_i nb), some (pw_i fa)] [] (fun h' v => pw_I h' ∧ pw_E [28, 29, 30, 33, 36] h h' ∧ pw_P 28 29 h' (T + 1) ∧ ∃ a : Int, v = .inl (some (pw_i a)) ∧ 0 ≤ a ∧ a ≤ 5 ∧ (pw_g h 24 4 ≠ 4 ∨ a = 1)) := by
    intro nt opn nb fa y1 y2 y3 y4 y5 y6 hk4
    refine pw_ld E (pc' := 136) (st' := [.ref 46]) rfl (fun _ => rfl) ?_
    refine pw_ld E (pc' := 137) (st' := [.ref 44, .ref 46]) rfl (fun _ => rfl) ?_
    refine pw_getI I E (c := 28) (k := 8) (pc' := 140) rfl rfl rfl rfl rfl rfl (fun ga1 ga2 ga3 ga4 => ?_)
    refine pw_ld E (pc' := 142) (st' := [pw_i nb, pw_i (pw_g h 28 8), .ref 46]) rfl (fun _ => rfl) ?_
    refine pw_if E (pc' := 152) rfl (by decide) (by omega) (by omega) ?_ ?_
    · intro _
      refine pw_sip E (pc' := 155) rfl rfl (by decide) ?_
      refine pw_ld E (pc' := 157) (st' := [pw_i fa, pw_i 10000, pw_i (pw_g h 28 8), .ref 46]) rfl (fun _ => rfl) ?_
      refine pw_add E (pc' := 158) rfl rfl ?_
      exact K158 nt opn nb fa _ (by omega) (by omega) hk4
    · intro _
      refine pw_ld E (pc' := 146) (st' := [.ref 40, pw_i (pw_g h 28 8), .ref 46]) rfl (fun _ => rfl) ?_
      obtain ⟨f1l, f1h, -⟩ := pw_obj (c := 24) I rfl
      refine pw_call (m' := 110) (As := [.ref 40]) (rest := [pw_i (pw_g h 28 8), .ref 46]) (ls'' := [some (.ref 40)]) (by omega) E rfl (fun _ => pw_iV rfl rfl rfl rfl (pw_cellI f1h rfl)) (rfl : pm_ent 110 = some (1, 1, 9, 0, pmc_110)) rfl rfl (cm_110 (by omega) I) ?_
      rintro u1 w1 ⟨rfl, x, rfl, hxa, hxb⟩
      refine ⟨_, rfl, ?_⟩
      show pw X d h 47 149 [some (.ref 44), some (.ref 40), some (.ref 46), some (pw_i nt), some (pw_i opn), some (pw_i nb), some (pw_i fa)] [pw_i x, pw_i (pw_g h 28 8), .ref 46] _
      refine pw_goto E (pc' := 158) rfl (by decide) ?_
      exact K158 nt opn nb fa _ (by omega) (by omega) hk4
  have K89 : ∀ (nt opn nb fa : Int), (nt = 0 ∨ (nt = 1 ∧ pw_g h 24 4 = 1)) → (opn = 0 ∨ (opn = 1 ∧ pw_g h 24 4 = 3)) → (nb = 0 ∨ (nb = 1 ∧ pw_g h 24 4 = 2)) → -1 ≤ fa → fa ≤ 60 → (pw_g h 24 4 = 1 ∨ fa = -1) → (nt ≠ 0 ∨ opn ≠ 0) → pw_g h 28 5 ≤ 4 → pw_g h 24 4 ≠ 4 → pw X d h 47 89 [some (.ref 44), some (.ref 40), some (.ref 46), some (pw_i nt), some (pw_i opn), some (pw_i nb), some (pw_i fa)] [] (fun h' v => pw_I h' ∧ pw_E [28, 29, 30, 33, 36] h h' ∧ pw_P 28 29 h' (T + 1) ∧ ∃ a : Int, v = .inl (some (pw_i a)) ∧ 0 ≤ a ∧ a ≤ 5 ∧ (pw_g h 24 4 ≠ 4 ∨ a = 1)) := by
    intro nt opn nb fa y1 y2 y3 y4 y5 y6 y7 hd4 hk4
    have cs : (nt = 1 ∧ opn = 0) ∨ (nt = 0 ∧ opn = 1) := by omega
    rcases cs with ⟨rfl, rfl⟩ | ⟨rfl, rfl⟩
    · refine pw_ld E (pc' := 90) (st' := [.ref 44]) rfl (fun _ => rfl) ?_
      refine pw_ld E (pc' := 91) (st' := [.ref 44, .ref 44]) rfl (fun _ => rfl) ?_
      refine pw_getI I E (c := 28) (k := 5) (pc' := 94) rfl rfl rfl rfl rfl rfl (fun ga1 ga2 ga3 ga4 => ?_)
      refine pw_ld E (pc' := 95) (st' := [pw_i 1, pw_i (pw_g h 28 5), .ref 44]) rfl (fun _ => rfl) ?_
      refine pw_add E (pc' := 96) rfl rfl ?_
      refine pw_putI I E (c := 28) (k := 5) (pc' := 99) rfl rfl rfl rfl (by omega) (by omega) (by omega) (by omega) rfl rfl ?_
      intro h1I h1E
      generalize h1w : pw_w h 28 5 (pw_i (pw_g h 28 5 + 1)) = h1 at h1I h1E ⊢
      have F1 := E0.tr (h1E.wk (W' := [28, 29, 30, 33, 36]) (by first | rfl | simp))
      have nh1 : ∀ c' k', ¬ (28 = c' ∧ 5 = k') → pw_g h1 c' k' = pw_g h c' k' := fun c' k' hn => by rw [← h1w]; exact pw_g_ne hn
      have eh1 : pw_g h1 28 5 = pw_g h 28 5 + 1 := by rw [← h1w]; exact pw_g_eq (c := 28) (k := 5) I rfl rfl (by omega) (by omega)
      have m16 := nh1 28 6 (by decide)
      refine pw_ld E (pc' := 100) (st' := [.ref 44]) rfl (fun _ => rfl) ?_
      refine pw_ld E (pc' := 101) (st' := [.ref 44, .ref 44]) rfl (fun _ => rfl) ?_
      refine pw_getI h1I E (c := 28) (k := 6) (pc' := 104) rfl rfl rfl rfl rfl rfl (fun gb1 gb2 gb3 gb4 => ?_)
      refine pw_ld E (pc' := 106) (st' := [pw_i 0, pw_i (pw_g h1 28 6), .ref 44]) rfl (fun _ => rfl) ?_
      refine pw_if E (pc' := 113) rfl (by decide) (by omega) (by omega) ?_ ?_
      · intro _
        refine pw_ld E (pc' := 114) (st' := [pw_i 0, pw_i (pw_g h1 28 6), .ref 44]) rfl (fun _ => rfl) ?_
        refine pw_add E (pc' := 115) rfl rfl ?_
        refine pw_putI h1I E (c := 28) (k := 6) (pc' := 118) rfl rfl rfl rfl (by omega) (by omega) (by omega) (by omega) rfl rfl ?_
        intro h2I h2E
        generalize h2w : pw_w h1 28 6 (pw_i (pw_g h1 28 6 + 0)) = h2 at h2I h2E ⊢
        have F2 := F1.tr (h2E.wk (W' := [28, 29, 30, 33, 36]) (by first | rfl | simp))
        have nh2 : ∀ c' k', ¬ (28 = c' ∧ 6 = k') → pw_g h2 c' k' = pw_g h1 c' k' := fun c' k' hn => by rw [← h2w]; exact pw_g_ne hn
        have eh2 : pw_g h2 28 6 = pw_g h1 28 6 + 0 := by rw [← h2w]; exact pw_g_eq (c := 28) (k := 6) h1I rfl rfl (by omega) (by omega)
        have m25 := nh2 28 5 (by decide)
        have m24 := (nh2 28 4 (by decide)).trans (nh1 28 4 (by decide))
        have m21 := (nh2 30 1 (by decide)).trans (nh1 30 1 (by decide))
        have J2 : pw_J 28 29 h2 (pw_g h 28 5) (pw_g h 28 6) := pw_Jof (h := h) P.1 (fun j => (nh2 29 j (by omega)).trans (nh1 29 j (by omega))) (by rw [m24])
        refine pw_ld E (pc' := 119) (st' := [.ref 44]) rfl (fun _ => rfl) ?_
        refine pw_ld E (pc' := 120) (st' := [pw_i 1, .ref 44]) rfl (fun _ => rfl) ?_
        refine pw_if E (pc' := 128) rfl (by decide) (by omega) (by omega) ?_ ?_
        · intro hz
          have hz : (1 : Int) = 0 := hz
          exfalso; omega
        · intro _
          refine pw_bip E (pc' := 125) rfl rfl (by decide) ?_
          refine pw_goto E (pc' := 130) rfl (by decide) ?_
          obtain ⟨f2l, f2h, -⟩ := pw_obj (c := 28) h2I rfl
          refine pw_call (m' := 48) (As := [.ref 44, pw_i 8]) (rest := []) (ls'' := [some (.ref 44), some (pw_i 8)]) (by omega) E rfl (fun _ => pw_iV rfl rfl rfl rfl (pw_cellI f2h rfl)) (rfl : pm_ent 48 = some (2, 2, 5, 4, pmc_48)) rfl rfl (cm_48_28 (by omega) h2I 8 (by decide) (by decide) J2 (Or.inl (by decide)) (fun _ => by omega)) ?_
          rintro h3 v4 ⟨h3I, h3E, ⟨h3J, h3p, h3k⟩, rfl⟩
          refine ⟨_, rfl, ?_⟩
          show pw X d h3 47 133 [some (.ref 44), some (.ref 40), some (.ref 46), some (pw_i 1), some (pw_i 0), some (pw_i nb), some (pw_i fa)] [] _
          have F3 := F2.tr (h3E.wk (W' := [28, 29, 30, 33, 36]) (by first | rfl | simp))
          rw [if_pos (by decide), if_neg (by decide)] at h3J
          have m31 : pw_g h3 30 1 = pw_g h2 30 1 := pw_Eg (c := 30) h2I h3E rfl rfl 1
          have m35 := h3k 5 (by decide)
          have m36 := h3k 6 (by decide)
          have P3 : pw_P 28 29 h3 (T + 1) := by
            obtain ⟨p1, p2, p3⟩ := P
            refine ⟨?_, by omega, by omega⟩
            rw [show pw_g h3 28 5 = pw_g h 28 5 + 1 by omega, show pw_g h3 28 6 = pw_g h 28 6 + 0 by omega]
            exact h3J
          refine pw_ld E (pc' := 134) (st' := [pw_i 0]) rfl (fun _ => rfl) ?_
          refine pw_iret E rfl ?_
          exact ⟨h3I, F3, P3, ⟨_, rfl, by omega, by omega, Or.inl hk4⟩⟩
      · intro hz
        have hz : ¬ ((0 : Int) = 0) := hz
        exfalso; omega
    · refine pw_ld E (pc' := 90) (st' := [.ref 44]) rfl (fun _ => rfl) ?_
      refine pw_ld E (pc' := 91) (st' := [.ref 44, .ref 44]) rfl (fun _ => rfl) ?_
      refine pw_getI I E (c := 28) (k := 5) (pc' := 94) rfl rfl rfl rfl rfl rfl (fun ga1 ga2 ga3 ga4 => ?_)
      refine pw_ld E (pc' := 95) (st' := [pw_i 1, pw_i (pw_g h 28 5), .ref 44]) rfl (fun _ => rfl) ?_
      refine pw_add E (pc' := 96) rfl rfl ?_
      refine pw_putI I E (c := 28) (k := 5) (pc' := 99) rfl rfl rfl rfl (by omega) (by omega) (by omega) (by omega) rfl rfl ?_
      intro h1I h1E
      generalize h1w : pw_w h 28 5 (pw_i (pw_g h 28 5 + 1)) = h1 at h1I h1E ⊢
      have F1 := E0.tr (h1E.wk (W' := [28, 29, 30, 33, 36]) (by first | rfl | simp))
      have nh1 : ∀ c' k', ¬ (28 = c' ∧ 5 = k') → pw_g h1 c' k' = pw_g h c' k' := fun c' k' hn => by rw [← h1w]; exact pw_g_ne hn
      have eh1 : pw_g h1 28 5 = pw_g h 28 5 + 1 := by rw [← h1w]; exact pw_g_eq (c := 28) (k := 5) I rfl rfl (by omega) (by omega)
      have m16 := nh1 28 6 (by decide)
      refine pw_ld E (pc' := 100) (st' := [.ref 44]) rfl (fun _ => rfl) ?_
      refine pw_ld E (pc' := 101) (st' := [.ref 44, .ref 44]) rfl (fun _ => rfl) ?_
      refine pw_getI h1I E (c := 28) (k := 6) (pc' := 104) rfl rfl rfl rfl rfl rfl (fun gb1 gb2 gb3 gb4 => ?_)
      refine pw_ld E (pc' := 106) (st' := [pw_i 1, pw_i (pw_g h1 28 6), .ref 44]) rfl (fun _ => rfl) ?_
      refine pw_if E (pc' := 113) rfl (by decide) (by omega) (by omega) ?_ ?_
      · intro hz
        have hz : (1 : Int) = 0 := hz
        exfalso; omega
      · intro _
        refine pw_ld E (pc' := 110) (st' := [pw_i 1, pw_i (pw_g h1 28 6), .ref 44]) rfl (fun _ => rfl) ?_
        refine pw_goto E (pc' := 114) rfl (by decide) ?_
        refine pw_add E (pc' := 115) rfl rfl ?_
        refine pw_putI h1I E (c := 28) (k := 6) (pc' := 118) rfl rfl rfl rfl (by omega) (by omega) (by omega) (by omega) rfl rfl ?_
        intro h2I h2E
        generalize h2w : pw_w h1 28 6 (pw_i (pw_g h1 28 6 + 1)) = h2 at h2I h2E ⊢
        have F2 := F1.tr (h2E.wk (W' := [28, 29, 30, 33, 36]) (by first | rfl | simp))
        have nh2 : ∀ c' k', ¬ (28 = c' ∧ 6 = k') → pw_g h2 c' k' = pw_g h1 c' k' := fun c' k' hn => by rw [← h2w]; exact pw_g_ne hn
        have eh2 : pw_g h2 28 6 = pw_g h1 28 6 + 1 := by rw [← h2w]; exact pw_g_eq (c := 28) (k := 6) h1I rfl rfl (by omega) (by omega)
        have m25 := nh2 28 5 (by decide)
        have m24 := (nh2 28 4 (by decide)).trans (nh1 28 4 (by decide))
        have m21 := (nh2 30 1 (by decide)).trans (nh1 30 1 (by decide))
        have J2 : pw_J 28 29 h2 (pw_g h 28 5) (pw_g h 28 6) := pw_Jof (h := h) P.1 (fun j => (nh2 29 j (by omega)).trans (nh1 29 j (by omega))) (by rw [m24])
        refine pw_ld E (pc' := 119) (st' := [.ref 44]) rfl (fun _ => rfl) ?_
        refine pw_ld E (pc' := 120) (st' := [pw_i 0, .ref 44]) rfl (fun _ => rfl) ?_
        refine pw_if E (pc' := 128) rfl (by decide) (by omega) (by omega) ?_ ?_
        · intro _
          refine pw_bip E (pc' := 130) rfl rfl (by decide) ?_
          obtain ⟨f2l, f2h, -⟩ := pw_obj (c := 28) h2I rfl
          refine pw_call (m' := 48) (As := [.ref 44, pw_i 9]) (rest := []) (ls'' := [some (.ref 44), some (pw_i 9)]) (by omega) E rfl (fun _ => pw_iV rfl rfl rfl rfl (pw_cellI f2h rfl)) (rfl : pm_ent 48 = some (2, 2, 5, 4, pmc_48)) rfl rfl (cm_48_28 (by omega) h2I 9 (by decide) (by decide) J2 (Or.inl (by decide)) (fun _ => by omega)) ?_
          rintro h3 v4 ⟨h3I, h3E, ⟨h3J, h3p, h3k⟩, rfl⟩
          refine ⟨_, rfl, ?_⟩
          show pw X d h3 47 133 [some (.ref 44), some (.ref 40), some (.ref 46), some (pw_i 0), some (pw_i 1), some (pw_i nb), some (pw_i fa)] [] _
          have F3 := F2.tr (h3E.wk (W' := [28, 29, 30, 33, 36]) (by first | rfl | simp))
          rw [if_pos (by decide), if_pos (by decide)] at h3J
          have m31 : pw_g h3 30 1 = pw_g h2 30 1 := pw_Eg (c := 30) h2I h3E rfl rfl 1
          have m35 := h3k 5 (by decide)
          have m36 := h3k 6 (by decide)
          have P3 : pw_P 28 29 h3 (T + 1) := by
            obtain ⟨p1, p2, p3⟩ := P
            refine ⟨?_, by omega, by omega⟩
            rw [show pw_g h3 28 5 = pw_g h 28 5 + 1 by omega, show pw_g h3 28 6 = pw_g h 28 6 + 1 by omega]
            exact h3J
          refine pw_ld E (pc' := 134) (st' := [pw_i 0]) rfl (fun _ => rfl) ?_
          refine pw_iret E rfl ?_
          exact ⟨h3I, F3, P3, ⟨_, rfl, by omega, by omega, Or.inl hk4⟩⟩
        · intro hz
          have hz : ¬ ((0 : Int) = 0) := hz
          exfalso; omega
  have K70 : ∀ (nt opn nb fa : Int), (nt = 0 ∨ (nt = 1 ∧ pw_g h 24 4 = 1)) → (opn = 0 ∨ (opn = 1 ∧ pw_g h 24 4 = 3)) → (nb = 0 ∨ (nb = 1 ∧ pw_g h 24 4 = 2)) → -1 ≤ fa → fa ≤ 60 → (pw_g h 24 4 = 1 ∨ fa = -1) → pw_g h 24 4 ≠ 4 → pw X d h 47 70 [some (.ref 44), some (.ref 40), some (.ref 46), some (pw_i nt), some (pw_i opn), some (pw_i nb), some (pw_i fa)] [] (fun h' v => pw_I h' ∧ pw_E [28, 29, 30, 33, 36] h h' ∧ pw_P 28 29 h' (T + 1) ∧ ∃ a : Int, v = .inl (some (pw_i a)) ∧ 0 ≤ a ∧ a ≤ 5 ∧ (pw_g h 24 4 ≠ 4 ∨ a = 1)) := by
    intro nt opn nb fa y1 y2 y3 y4 y5 y6 hk4
    refine pw_ld E (pc' := 71) (st' := [.ref 44]) rfl (fun _ => rfl) ?_
    refine pw_getI I E (c := 28) (k := 5) (pc' := 74) rfl rfl rfl rfl rfl rfl (fun ga1 ga2 ga3 ga4 => ?_)
    refine pw_ld E (pc' := 75) (st' := [pw_i 5, pw_i (pw_g h 28 5)]) rfl (fun _ => rfl) ?_
    refine pw_if2 E (pc' := 80) rfl (by decide) (by omega) (by omega) (by decide) (by decide) ?_ ?_
    · intro hc
      have hc : pw_g h 28 5 < 5 := hc
      refine pw_ld E (pc' := 81) (st' := [pw_i nt]) rfl (fun _ => rfl) ?_
      refine pw_if E (pc' := 89) rfl (by decide) (by omega) (by omega) ?_ ?_
      · intro hn
        have hn : nt ≠ 0 := hn
        exact K89 nt opn nb fa y1 y2 y3 y4 y5 y6 (Or.inl hn) (by omega) hk4
      · intro _
        refine pw_ld E (pc' := 86) (st' := [pw_i opn]) rfl (fun _ => rfl) ?_
        refine pw_if E (pc' := 135) rfl (by decide) (by omega) (by omega) ?_ ?_
        · intro _
          exact K135 nt opn nb fa y1 y2 y3 y4 y5 y6 hk4
        · intro hn
          have hn : ¬ (opn = 0) := hn
          exact K89 nt opn nb fa y1 y2 y3 y4 y5 y6 (Or.inr hn) (by omega) hk4
    · intro _
      refine pw_ld E (pc' := 79) (st' := [pw_i 5]) rfl (fun _ => rfl) ?_
      refine pw_iret E rfl ?_
      exact ⟨I, E0, P.wk (by omega), ⟨_, rfl, by omega, by omega, Or.inl hk4⟩⟩
  have K48 : ∀ (nt opn nb fa : Int), (nt = 0 ∨ (nt = 1 ∧ pw_g h 24 4 = 1)) → (opn = 0 ∨ (opn = 1 ∧ pw_g h 24 4 = 3)) → (nb = 0 ∨ (nb = 1 ∧ pw_g h 24 4 = 2)) → -1 ≤ fa → fa ≤ 60 → (pw_g h 24 4 = 1 ∨ fa = -1) → pw X d h 47 48 [some (.ref 44), some (.ref 40), some (.ref 46), some (pw_i nt), some (pw_i opn), some (pw_i nb), some (pw_i fa)] [] (fun h' v => pw_I h' ∧ pw_E [28, 29, 30, 33, 36] h h' ∧ pw_P 28 29 h' (T + 1) ∧ ∃ a : Int, v = .inl (some (pw_i a)) ∧ 0 ≤ a ∧ a ≤ 5 ∧ (pw_g h 24 4 ≠ 4 ∨ a = 1)) := by
    intro nt opn nb fa y1 y2 y3 y4 y5 y6
    refine pw_ld E (pc' := 49) (st' := [pw_i nt]) rfl (fun _ => rfl) ?_
    refine pw_if E (pc' := 70) rfl (by decide) (by omega) (by omega) ?_ ?_
    · intro z
      have z : nt ≠ 0 := z
      exact K70 nt opn nb fa y1 y2 y3 y4 y5 y6 (by omega)
    · intro z1
      have z1 : ¬ (nt ≠ 0) := z1
      refine pw_ld E (pc' := 54) (st' := [pw_i opn]) rfl (fun _ => rfl) ?_
      refine pw_if E (pc' := 70) rfl (by decide) (by omega) (by omega) ?_ ?_
      · intro z
        have z : opn ≠ 0 := z
        exact K70 nt opn nb fa y1 y2 y3 y4 y5 y6 (by omega)
      · intro z2
        have z2 : ¬ (opn ≠ 0) := z2
        refine pw_ld E (pc' := 59) (st' := [pw_i nb]) rfl (fun _ => rfl) ?_
        refine pw_if E (pc' := 70) rfl (by decide) (by omega) (by omega) ?_ ?_
        · intro z
          have z : nb ≠ 0 := z
          exact K70 nt opn nb fa y1 y2 y3 y4 y5 y6 (by omega)
        · intro z3
          have z3 : ¬ (nb ≠ 0) := z3
          refine pw_ld E (pc' := 64) (st' := [pw_i fa]) rfl (fun _ => rfl) ?_
          refine pw_ld E (pc' := 65) (st' := [pw_i (-1), pw_i fa]) rfl (fun _ => rfl) ?_
          refine pw_if2 E (pc' := 70) rfl (by decide) (by omega) (by omega) (by decide) (by decide) ?_ ?_
          · intro z
            have z : fa ≠ -1 := z
            exact K70 nt opn nb fa y1 y2 y3 y4 y5 y6 (by omega)
          · intro _
            refine pw_ld E (pc' := 69) (st' := [pw_i 1]) rfl (fun _ => rfl) ?_
            refine pw_iret E rfl ?_
            exact ⟨I, E0, P.wk (by omega), ⟨_, rfl, by omega, by omega, Or.inr rfl⟩⟩
  have K38 : ∀ (nt opn nb : Int), (nt = 0 ∨ (nt = 1 ∧ pw_g h 24 4 = 1)) → (opn = 0 ∨ (opn = 1 ∧ pw_g h 24 4 = 3)) → (nb = 0 ∨ (nb = 1 ∧ pw_g h 24 4 = 2)) → pw X d h 47 38 [some (.ref 44), some (.ref 40), some (.ref 46), some (pw_i nt), some (pw_i opn), some (pw_i nb), none] [] (fun h' v => pw_I h' ∧ pw_E [28, 29, 30, 33, 36] h h' ∧ pw_P 28 29 h' (T + 1) ∧ ∃ a : Int, v = .inl (some (pw_i a)) ∧ 0 ≤ a ∧ a ≤ 5 ∧ (pw_g h 24 4 ≠ 4 ∨ a = 1)) := by
    intro nt opn nb y1 y2 y3
    refine pw_ld E (pc' := 39) (st' := [.ref 40]) rfl (fun _ => rfl) ?_
    refine pw_ld E (pc' := 40) (st' := [.ref 44, .ref 40]) rfl (fun _ => rfl) ?_
    refine pw_getR (b := 7) I E (c := 28) (k := 1) (pc' := 43) rfl rfl rfl rfl rfl rfl rfl ?_
    obtain ⟨f1l, f1h, -⟩ := pw_obj (c := 24) I rfl
    refine pw_call (m' := 108) (As := [.ref 40, .ref 7]) (rest := []) (ls'' := [some (.ref 40), some (.ref 7), none, none, none, none, none]) (by omega) E rfl (fun _ => pw_iV rfl rfl rfl rfl (pw_cellI f1h rfl)) (rfl : pm_ent 108 = some (2, 7, 9, 0, pmc_108)) rfl rfl (cm_108_24 (by omega) I hX 7 (by decide) (by decide)) ?_
    rintro u1 w1 ⟨rfl, x, rfl, hxa, hxb, hxr⟩
    refine ⟨_, rfl, ?_⟩
    show pw X d h 47 46 [some (.ref 44), some (.ref 40), some (.ref 46), some (pw_i nt), some (pw_i opn), some (pw_i nb), none] [pw_i x] _
    refine pw_ist E (pc' := 48) (ls' := [some (.ref 44), some (.ref 40), some (.ref 46), some (pw_i nt), some (pw_i opn), some (pw_i nb), some (pw_i x)]) rfl rfl rfl rfl ?_
    exact K48 nt opn nb x y1 y2 y3 hxa hxb hxr
  have K15 : ∀ (nt : Int), (nt = 0 ∨ (nt = 1 ∧ pw_g h 24 4 = 1)) → pw X d h 47 15 [some (.ref 44), some (.ref 40), some (.ref 46), some (pw_i nt), none, none, none] [] (fun h' v => pw_I h' ∧ pw_E [28, 29, 30, 33, 36] h h' ∧ pw_P 28 29 h' (T + 1) ∧ ∃ a : Int, v = .inl (some (pw_i a)) ∧ 0 ≤ a ∧ a ≤ 5 ∧ (pw_g h 24 4 ≠ 4 ∨ a = 1)) := by
    intro nt y1
    refine pw_ld E (pc' := 16) (st' := [.ref 40]) rfl (fun _ => rfl) ?_
    refine pw_bip E (pc' := 18) rfl rfl (by decide) ?_
    obtain ⟨f1l, f1h, -⟩ := pw_obj (c := 24) I rfl
    refine pw_call (m' := 109) (As := [.ref 40, pw_i 40]) (rest := []) (ls'' := [some (.ref 40), some (pw_i 40)]) (by omega) E rfl (fun _ => pw_iV rfl rfl rfl rfl (pw_cellI f1h rfl)) (rfl : pm_ent 109 = some (2, 2, 9, 1, pmc_109)) rfl rfl (cm_109_24 (by omega) I 40 (by decide) (by decide)) ?_
    rintro u1 w1 ⟨rfl, x, rfl, hxa, hxb, hxr⟩
    refine ⟨_, rfl, ?_⟩
    show pw X d h 47 21 [some (.ref 44), some (.ref 40), some (.ref 46), some (pw_i nt), none, none, none] [pw_i x] _
    refine pw_ist E (pc' := 23) (ls' := [some (.ref 44), some (.ref 40), some (.ref 46), some (pw_i nt), some (pw_i x), none, none]) rfl rfl rfl rfl ?_
    refine pw_ld E (pc' := 24) (st' := [.ref 40]) rfl (fun _ => rfl) ?_
    obtain ⟨f2l, f2h, -⟩ := pw_obj (c := 24) I rfl
    refine pw_call (m' := 107) (As := [.ref 40]) (rest := []) (ls'' := [some (.ref 40)]) (by omega) E rfl (fun _ => pw_iV rfl rfl rfl rfl (pw_cellI f2h rfl)) (rfl : pm_ent 107 = some (1, 1, 9, 0, pmc_107)) rfl rfl (cm_107_24 (by omega) I) ?_
    rintro u2 w2 ⟨rfl, y, rfl, hya, hyb, hyr⟩
    refine ⟨_, rfl, ?_⟩
    show pw X d h 47 27 [some (.ref 44), some (.ref 40), some (.ref 46), some (pw_i nt), some (pw_i x), none, none] [pw_i y] _
    refine pw_ld E (pc' := 28) (st' := [pw_i 2, pw_i y]) rfl (fun _ => rfl) ?_
    refine pw_if2 E (pc' := 35) rfl (by decide) (by omega) (by omega) (by decide) (by decide) ?_ ?_
    · intro _
      refine pw_ld E (pc' := 36) (st' := [pw_i 0]) rfl (fun _ => rfl) ?_
      refine pw_ist E (pc' := 38) (ls' := [some (.ref 44), some (.ref 40), some (.ref 46), some (pw_i nt), some (pw_i x), some (pw_i 0), none]) rfl rfl rfl rfl ?_
      exact K38 nt x 0 y1 (by omega) (by omega)
    · intro z
      have z : ¬ (y ≠ 2) := z
      refine pw_ld E (pc' := 32) (st' := [pw_i 1]) rfl (fun _ => rfl) ?_
      refine pw_goto E (pc' := 36) rfl (by decide) ?_
      refine pw_ist E (pc' := 38) (ls' := [some (.ref 44), some (.ref 40), some (.ref 46), some (pw_i nt), some (pw_i x), some (pw_i 1), none]) rfl rfl rfl rfl ?_
      exact K38 nt x 1 y1 (by omega) (by omega)
  refine pw_ld E (pc' := 1) (st' := [.ref 40]) rfl (fun _ => rfl) ?_
  refine pw_ld E (pc' := 3) (st' := [.ref 10, .ref 40]) rfl (fun _ => rfl) ?_
  obtain ⟨f1l, f1h, -⟩ := pw_obj (c := 24) I rfl
  refine pw_call (m' := 108) (As := [.ref 40, .ref 10]) (rest := []) (ls'' := [some (.ref 40), some (.ref 10), none, none, none, none, none]) (by omega) E rfl (fun _ => pw_iV rfl rfl rfl rfl (pw_cellI f1h rfl)) (rfl : pm_ent 108 = some (2, 7, 9, 0, pmc_108)) rfl rfl (cm_108_24 (by omega) I hX 10 (by decide) (by decide)) ?_
  rintro u1 w1 ⟨rfl, x, rfl, hxa, hxb, hxr⟩
  refine ⟨_, rfl, ?_⟩
  show pw X d h 47 6 [some (.ref 44), some (.ref 40), some (.ref 46), none, none, none, none] [pw_i x] _
  refine pw_if E (pc' := 13) rfl (by decide) (by omega) (by omega) ?_ ?_
  · intro _
    refine pw_ld E (pc' := 14) (st' := [pw_i 0]) rfl (fun _ => rfl) ?_
    refine pw_istn E (pc' := 15) (ls' := [some (.ref 44), some (.ref 40), some (.ref 46), some (pw_i 0), none, none, none]) rfl rfl rfl rfl ?_
    exact K15 0 (by omega)
  · intro z
    have z : ¬ (x ≠ 0) := z
    refine pw_ld E (pc' := 10) (st' := [pw_i 1]) rfl (fun _ => rfl) ?_
    refine pw_goto E (pc' := 14) rfl (by decide) ?_
    refine pw_istn E (pc' := 15) (ls' := [some (.ref 44), some (.ref 40), some (.ref 46), some (pw_i 1), none, none, none]) rfl rfl rfl rfl ?_
    exact K15 1 (by omega)
