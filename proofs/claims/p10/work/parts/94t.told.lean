/-! who is told, exactly (printed by wip/tool/mtold.py) -/
set_option maxHeartbeats 4000000 in
theorem cm_58_t {X : List (Nat × List Value)} {d : Nat} {h : pm_H} (hd : 1 ≤ d) (I : pw_I h) (k : Int) (hk1 : 0 ≤ k) (hk2 : k ≤ 23) (b : Int) (hb1 : 0 ≤ b) (hb2 : b ≤ 1) (w : Int) (hw1 : 0 ≤ w) (hw2 : w ≤ 999) (mx : Int) (hmx1 : 0 ≤ mx) (hmx2 : mx ≤ 99) (z : Int) (hz1 : 0 ≤ z) (hz2 : z ≤ 1) : pw X d h 58 0 [some (.ref 17), some (pw_i k), some (pw_i b), some (pw_i w), some (pw_i mx), some (pw_i z)] [] (fun h' v => pw_I h' ∧ pw_E [2, 3, 4, 5, 6] h h' ∧ (pw_g h' 2 k.toNat = 1 ∧ ∀ j : Nat, j ≠ k.toNat → pw_g h' 2 j = pw_g h 2 j) ∧ (v = .inl none)) := by
  have E : pm_ent 58 = some (6, 6, 6, 4, pmc_58) := rfl
  have E0 : pw_E [2, 3, 4, 5, 6] h h := pw_E.rf _ _
  refine pw_ld E (pc' := 1) (st' := [.ref 17]) rfl (fun _ => rfl) ?_
  refine pw_getR (b := 18) I E (c := 1) (k := 0) (pc' := 4) rfl rfl rfl rfl rfl rfl rfl ?_
  refine pw_ld E (pc' := 5) (st' := [pw_i k, .ref 18]) rfl (fun _ => rfl) ?_
  refine pw_ld E (pc' := 6) (st' := [pw_i 1, pw_i k, .ref 18]) rfl (fun _ => rfl) ?_
  refine pw_ast0 I E (c := 2) (pc' := 7) rfl rfl rfl (by decide) rfl (by decide) (by omega) (by omega) (pw_b1 (by omega) (by omega)) (by omega) (by omega) (by omega) (by omega) rfl ?_
  intro h1I h1E
  generalize h1w : pw_w h 2 (k.toNat) (pw_i 1) = h1 at h1I h1E ⊢
  have h1F := E0.tr (h1E.wk (W' := [2, 3, 4, 5, 6]) (by first | rfl | simp))
  refine pw_ld E (pc' := 8) (st' := [.ref 17]) rfl (fun _ => rfl) ?_
  refine pw_getR (b := 19) h1I E (c := 1) (k := 1) (pc' := 11) rfl rfl rfl rfl rfl rfl rfl ?_
  refine pw_ld E (pc' := 12) (st' := [pw_i k, .ref 19]) rfl (fun _ => rfl) ?_
  refine pw_ld E (pc' := 14) (st' := [pw_i z, pw_i k, .ref 19]) rfl (fun _ => rfl) ?_
  refine pw_ast0 h1I E (c := 3) (pc' := 15) rfl rfl rfl (by decide) rfl (by decide) (by omega) (by omega) (pw_b1 (by omega) (by omega)) (by omega) (by omega) (by omega) (by omega) rfl ?_
  intro h2I h2E
  generalize h2w : pw_w h1 3 (k.toNat) (pw_i z) = h2 at h2I h2E ⊢
  have h2F := h1F.tr (h2E.wk (W' := [2, 3, 4, 5, 6]) (by first | rfl | simp))
  refine pw_ld E (pc' := 16) (st' := [.ref 17]) rfl (fun _ => rfl) ?_
  refine pw_getR (b := 20) h2I E (c := 1) (k := 2) (pc' := 19) rfl rfl rfl rfl rfl rfl rfl ?_
  refine pw_ld E (pc' := 20) (st' := [pw_i k, .ref 20]) rfl (fun _ => rfl) ?_
  refine pw_ld E (pc' := 21) (st' := [pw_i b, pw_i k, .ref 20]) rfl (fun _ => rfl) ?_
  refine pw_ast0 h2I E (c := 4) (pc' := 22) rfl rfl rfl (by decide) rfl (by decide) (by omega) (by omega) rfl (by omega) (by omega) (by omega) (by omega) rfl ?_
  intro h3I h3E
  generalize h3w : pw_w h2 4 (k.toNat) (pw_i b) = h3 at h3I h3E ⊢
  have h3F := h2F.tr (h3E.wk (W' := [2, 3, 4, 5, 6]) (by first | rfl | simp))
  refine pw_ld E (pc' := 23) (st' := [.ref 17]) rfl (fun _ => rfl) ?_
  refine pw_getR (b := 21) h3I E (c := 1) (k := 3) (pc' := 26) rfl rfl rfl rfl rfl rfl rfl ?_
  refine pw_ld E (pc' := 27) (st' := [pw_i k, .ref 21]) rfl (fun _ => rfl) ?_
  refine pw_ld E (pc' := 28) (st' := [pw_i w, pw_i k, .ref 21]) rfl (fun _ => rfl) ?_
  refine pw_ast0 h3I E (c := 5) (pc' := 29) rfl rfl rfl (by decide) rfl (by decide) (by omega) (by omega) rfl (by omega) (by omega) (by omega) (by omega) rfl ?_
  intro h4I h4E
  generalize h4w : pw_w h3 5 (k.toNat) (pw_i w) = h4 at h4I h4E ⊢
  have h4F := h3F.tr (h4E.wk (W' := [2, 3, 4, 5, 6]) (by first | rfl | simp))
  refine pw_ld E (pc' := 30) (st' := [.ref 17]) rfl (fun _ => rfl) ?_
  refine pw_getR (b := 22) h4I E (c := 1) (k := 4) (pc' := 33) rfl rfl rfl rfl rfl rfl rfl ?_
  refine pw_ld E (pc' := 34) (st' := [pw_i k, .ref 22]) rfl (fun _ => rfl) ?_
  refine pw_ld E (pc' := 36) (st' := [pw_i mx, pw_i k, .ref 22]) rfl (fun _ => rfl) ?_
  refine pw_ast0 h4I E (c := 6) (pc' := 37) rfl rfl rfl (by decide) rfl (by decide) (by omega) (by omega) rfl (by omega) (by omega) (by omega) (by omega) rfl ?_
  intro h5I h5E
  generalize h5w : pw_w h4 6 (k.toNat) (pw_i mx) = h5 at h5I h5E ⊢
  have h5F := h4F.tr (h5E.wk (W' := [2, 3, 4, 5, 6]) (by first | rfl | simp))
  refine pw_vret E rfl ?_
  have hl6 : ∀ j : Nat, pw_g h5 2 j = pw_g h1 2 j := fun j => ((((by rw [← h5w]; exact pw_g_ne (by omega) : pw_g h5 2 j = pw_g h4 2 j)).trans (by rw [← h4w]; exact pw_g_ne (by omega) : pw_g h4 2 j = pw_g h3 2 j)).trans (by rw [← h3w]; exact pw_g_ne (by omega) : pw_g h3 2 j = pw_g h2 2 j)).trans (by rw [← h2w]; exact pw_g_ne (by omega) : pw_g h2 2 j = pw_g h1 2 j)
  have hl7 : ∀ j : Nat, pw_g h 2 j = pw_g h 2 j := fun j => rfl
  have hp1 : pw_g h1 2 (k.toNat) = 1 := by rw [← h1w]; exact pw_g_eqA I rfl (by omega) (by omega) (by omega)
  have hp2 : ∀ j : Nat, j ≠ k.toNat → pw_g h1 2 j = pw_g h 2 j := fun j hj => by rw [← h1w]; exact pw_g_ne (fun q => hj q.2.symm)
  exact ⟨h5I, h5F, ⟨(hl6 _).trans hp1, fun j hj => (hl6 j).trans ((hp2 j hj).trans (hl7 j))⟩, rfl⟩
set_option maxHeartbeats 4000000 in
theorem cm_119_t {X : List (Nat × List Value)} {d : Nat} {h : pm_H} (hd : 3 ≤ d) (I : pw_I h) (k : Int) (hk1 : (-2147483648) ≤ k) (hk2 : k ≤ 2147483647) (b : Int) (hb1 : (-2147483648) ≤ b) (hb2 : b ≤ 2147483647) (w : Int) (hw1 : (-2147483648) ≤ w) (hw2 : w ≤ 2147483647) (mx : Int) (hmx1 : (-2147483648) ≤ mx) (hmx2 : mx ≤ 2147483647) (z : Int) (hz1 : 0 ≤ z) (hz2 : z ≤ 1) : pw X d h 119 0 [some (.ref 16), some (pw_i k), some (pw_i b), some (pw_i w), some (pw_i mx), some (pw_i z)] [] (fun h' v => pw_I h' ∧ pw_E [2, 3, 4, 5, 6] h h' ∧ ∃ a : Int, v = .inl (some (pw_i a)) ∧ 0 ≤ a ∧ a ≤ 1 ∧ (((a = 1 ∧ 0 ≤ k ∧ k ≤ 23 ∧ 0 ≤ b ∧ b ≤ 1 ∧ 0 ≤ w ∧ w ≤ 999 ∧ 0 ≤ mx ∧ mx ≤ 99) ∨ (a = 0 ∧ ¬ (0 ≤ k ∧ k ≤ 23 ∧ 0 ≤ b ∧ b ≤ 1 ∧ 0 ≤ w ∧ w ≤ 999 ∧ 0 ≤ mx ∧ mx ≤ 99))) ∧ (a = 1 → pw_g h' 2 k.toNat = 1 ∧ ∀ j : Nat, j ≠ k.toNat → pw_g h' 2 j = pw_g h 2 j) ∧ (a = 0 → ∀ j : Nat, pw_g h' 2 j = pw_g h 2 j))) := by
  have E : pm_ent 119 = some (6, 6, 11, 1, pmc_119) := rfl
  have E0 : pw_E [2, 3, 4, 5, 6] h h := pw_E.rf _ _
  refine pw_ld E (pc' := 1) (st' := [pw_i k]) rfl (fun _ => rfl) ?_
  refine pw_call (m' := 120) (As := [pw_i k]) (rest := []) (ls'' := [some (pw_i k)]) (by omega) E rfl (fun _ => pw_iS rfl rfl rfl) (rfl : pm_ent 120 = some (1, 1, 11, 1, pmc_120)) rfl rfl (cm_120 (by omega) I (k) (by omega) (by omega)) ?_
  rintro u2 v1 ⟨rfl, x3, rfl, hx3a, hx3b, hx3r⟩
  refine ⟨_, rfl, ?_⟩
  show pw X d h 119 4 [some (.ref 16), some (pw_i k), some (pw_i b), some (pw_i w), some (pw_i mx), some (pw_i z)] [pw_i x3] _
  have hx3r : (x3 = 1 ∧ 0 ≤ k ∧ k ≤ 23) ∨ (x3 = 0 ∧ ¬ (0 ≤ k ∧ k ≤ 23)) := hx3r
  rcases (by omega : x3 = 1 ∨ x3 = 0) with hb4 | hb4
  · have hb4 : x3 = 1 := by omega
    refine pw_if E (pc' := 36) rfl (by decide) (by omega) (by omega) ?_ ?_
    · intro hc5
      have hc5 : x3 = (0 : Int) := hc5
      exfalso; omega
    · intro hc6
      have hc6 : ¬ (x3 = (0 : Int)) := hc6
      refine pw_ld E (pc' := 8) (st' := [pw_i b]) rfl (fun _ => rfl) ?_
      refine pw_call (m' := 122) (As := [pw_i b]) (rest := []) (ls'' := [some (pw_i b)]) (by omega) E rfl (fun _ => pw_iS rfl rfl rfl) (rfl : pm_ent 122 = some (1, 1, 11, 1, pmc_122)) rfl rfl (cm_122 (by omega) I (b) (by omega) (by omega)) ?_
      rintro u8 v7 ⟨rfl, x9, rfl, hx9a, hx9b, hx9r⟩
      refine ⟨_, rfl, ?_⟩
      show pw X d h 119 11 [some (.ref 16), some (pw_i k), some (pw_i b), some (pw_i w), some (pw_i mx), some (pw_i z)] [pw_i x9] _
      have hx9r : (x9 = 1 ∧ 0 ≤ b ∧ b ≤ 1) ∨ (x9 = 0 ∧ ¬ (0 ≤ b ∧ b ≤ 1)) := hx9r
      rcases (by omega : x9 = 1 ∨ x9 = 0) with hb10 | hb10
      · have hb10 : x9 = 1 := by omega
        refine pw_if E (pc' := 36) rfl (by decide) (by omega) (by omega) ?_ ?_
        · intro hc11
          have hc11 : x9 = (0 : Int) := hc11
          exfalso; omega
        · intro hc12
          have hc12 : ¬ (x9 = (0 : Int)) := hc12
          refine pw_ld E (pc' := 15) (st' := [pw_i w]) rfl (fun _ => rfl) ?_
          refine pw_ld E (pc' := 16) (st' := [pw_i 0, pw_i w]) rfl (fun _ => rfl) ?_
          refine pw_sip E (pc' := 19) rfl rfl (by decide) ?_
          refine pw_call (m' := 121) (As := [pw_i w, pw_i 0, pw_i 999]) (rest := []) (ls'' := [some (pw_i w), some (pw_i 0), some (pw_i 999)]) (by omega) E rfl (fun _ => pw_iS rfl rfl rfl) (rfl : pm_ent 121 = some (3, 3, 11, 1, pmc_121)) rfl rfl (cm_121 (by omega) I (w) (by omega) (by omega) (0) (by omega) (by omega) (999) (by omega) (by omega)) ?_
          rintro u14 v13 ⟨rfl, x15, rfl, hx15a, hx15b, hx15r⟩
          refine ⟨_, rfl, ?_⟩
          show pw X d h 119 22 [some (.ref 16), some (pw_i k), some (pw_i b), some (pw_i w), some (pw_i mx), some (pw_i z)] [pw_i x15] _
          have hx15r : (x15 = 1 ∧ 0 ≤ w ∧ w ≤ 999) ∨ (x15 = 0 ∧ ¬ (0 ≤ w ∧ w ≤ 999)) := hx15r
          rcases (by omega : x15 = 1 ∨ x15 = 0) with hb16 | hb16
          · have hb16 : x15 = 1 := by omega
            refine pw_if E (pc' := 36) rfl (by decide) (by omega) (by omega) ?_ ?_
            · intro hc17
              have hc17 : x15 = (0 : Int) := hc17
              exfalso; omega
            · intro hc18
              have hc18 : ¬ (x15 = (0 : Int)) := hc18
              refine pw_ld E (pc' := 27) (st' := [pw_i mx]) rfl (fun _ => rfl) ?_
              refine pw_ld E (pc' := 28) (st' := [pw_i 0, pw_i mx]) rfl (fun _ => rfl) ?_
              refine pw_bip E (pc' := 30) rfl rfl (by decide) ?_
              refine pw_call (m' := 121) (As := [pw_i mx, pw_i 0, pw_i 99]) (rest := []) (ls'' := [some (pw_i mx), some (pw_i 0), some (pw_i 99)]) (by omega) E rfl (fun _ => pw_iS rfl rfl rfl) (rfl : pm_ent 121 = some (3, 3, 11, 1, pmc_121)) rfl rfl (cm_121 (by omega) I (mx) (by omega) (by omega) (0) (by omega) (by omega) (99) (by omega) (by omega)) ?_
              rintro u20 v19 ⟨rfl, x21, rfl, hx21a, hx21b, hx21r⟩
              refine ⟨_, rfl, ?_⟩
              show pw X d h 119 33 [some (.ref 16), some (pw_i k), some (pw_i b), some (pw_i w), some (pw_i mx), some (pw_i z)] [pw_i x21] _
              have hx21r : (x21 = 1 ∧ 0 ≤ mx ∧ mx ≤ 99) ∨ (x21 = 0 ∧ ¬ (0 ≤ mx ∧ mx ≤ 99)) := hx21r
              rcases (by omega : x21 = 1 ∨ x21 = 0) with hb22 | hb22
              · have hb22 : x21 = 1 := by omega
                refine pw_if E (pc' := 38) rfl (by decide) (by omega) (by omega) ?_ ?_
                · intro hc23
                  have hc23 : x21 ≠ (0 : Int) := hc23
                  refine pw_ld E (pc' := 39) (st' := [.ref 16]) rfl (fun _ => rfl) ?_
                  refine pw_getR (b := 17) I E (c := 0) (k := 0) (pc' := 42) rfl rfl rfl rfl rfl rfl rfl ?_
                  refine pw_ld E (pc' := 43) (st' := [pw_i k, .ref 17]) rfl (fun _ => rfl) ?_
                  refine pw_ld E (pc' := 44) (st' := [pw_i b, pw_i k, .ref 17]) rfl (fun _ => rfl) ?_
                  refine pw_ld E (pc' := 45) (st' := [pw_i w, pw_i b, pw_i k, .ref 17]) rfl (fun _ => rfl) ?_
                  refine pw_ld E (pc' := 47) (st' := [pw_i mx, pw_i w, pw_i b, pw_i k, .ref 17]) rfl (fun _ => rfl) ?_
                  refine pw_ld E (pc' := 49) (st' := [pw_i z, pw_i mx, pw_i w, pw_i b, pw_i k, .ref 17]) rfl (fun _ => rfl) ?_
                  obtain ⟨f24l, f24h, -⟩ := pw_obj (c := 1) I rfl
                  refine pw_call (m' := 58) (As := [.ref 17, pw_i k, pw_i b, pw_i w, pw_i mx, pw_i z]) (rest := []) (ls'' := [some (.ref 17), some (pw_i k), some (pw_i b), some (pw_i w), some (pw_i mx), some (pw_i z)]) (by omega) E rfl (fun _ => pw_iV rfl rfl rfl rfl (pw_cellI f24h rfl)) (rfl : pm_ent 58 = some (6, 6, 6, 4, pmc_58)) rfl rfl (cm_58_t (by omega) I (k) (by omega) (by omega) (b) (by omega) (by omega) (w) (by omega) (by omega) (mx) (by omega) (by omega) (z) (by omega) (by omega)) ?_
                  rintro h25 v26 ⟨h25I, h25E, hqput, rfl⟩
                  refine ⟨_, rfl, ?_⟩
                  have h25F := E0.tr (h25E.wk (W' := [2, 3, 4, 5, 6]) (by first | rfl | simp))
                  show pw X d h25 119 52 [some (.ref 16), some (pw_i k), some (pw_i b), some (pw_i w), some (pw_i mx), some (pw_i z)] [] _
                  refine pw_ld E (pc' := 53) (st' := [pw_i 1]) rfl (fun _ => rfl) ?_
                  refine pw_zret E rfl (by omega) ?_
                  exact ⟨h25I, h25F, ⟨_, rfl, by omega, by omega, by omega, fun _ => hqput, fun q => by omega⟩⟩
                · intro hc27
                  have hc27 : ¬ (x21 ≠ (0 : Int)) := hc27
                  exfalso; omega
              · have hb28 : x21 = 0 := by omega
                refine pw_if E (pc' := 38) rfl (by decide) (by omega) (by omega) ?_ ?_
                · intro hc29
                  have hc29 : x21 ≠ (0 : Int) := hc29
                  exfalso; omega
                · intro hc30
                  have hc30 : ¬ (x21 ≠ (0 : Int)) := hc30
                  refine pw_ld E (pc' := 37) (st' := [pw_i 0]) rfl (fun _ => rfl) ?_
                  refine pw_zret E rfl (by omega) ?_
                  have hl31 : ∀ j : Nat, pw_g h 2 j = pw_g h 2 j := fun j => rfl
                  exact ⟨I, E0, ⟨_, rfl, by omega, by omega, by omega, fun q => by omega, fun _ => hl31⟩⟩
          · have hb32 : x15 = 0 := by omega
            refine pw_if E (pc' := 36) rfl (by decide) (by omega) (by omega) ?_ ?_
            · intro hc33
              have hc33 : x15 = (0 : Int) := hc33
              refine pw_ld E (pc' := 37) (st' := [pw_i 0]) rfl (fun _ => rfl) ?_
              refine pw_zret E rfl (by omega) ?_
              have hl34 : ∀ j : Nat, pw_g h 2 j = pw_g h 2 j := fun j => rfl
              exact ⟨I, E0, ⟨_, rfl, by omega, by omega, by omega, fun q => by omega, fun _ => hl34⟩⟩
            · intro hc35
              have hc35 : ¬ (x15 = (0 : Int)) := hc35
              exfalso; omega
      · have hb36 : x9 = 0 := by omega
        refine pw_if E (pc' := 36) rfl (by decide) (by omega) (by omega) ?_ ?_
        · intro hc37
          have hc37 : x9 = (0 : Int) := hc37
          refine pw_ld E (pc' := 37) (st' := [pw_i 0]) rfl (fun _ => rfl) ?_
          refine pw_zret E rfl (by omega) ?_
          have hl38 : ∀ j : Nat, pw_g h 2 j = pw_g h 2 j := fun j => rfl
          exact ⟨I, E0, ⟨_, rfl, by omega, by omega, by omega, fun q => by omega, fun _ => hl38⟩⟩
        · intro hc39
          have hc39 : ¬ (x9 = (0 : Int)) := hc39
          exfalso; omega
  · have hb40 : x3 = 0 := by omega
    refine pw_if E (pc' := 36) rfl (by decide) (by omega) (by omega) ?_ ?_
    · intro hc41
      have hc41 : x3 = (0 : Int) := hc41
      refine pw_ld E (pc' := 37) (st' := [pw_i 0]) rfl (fun _ => rfl) ?_
      refine pw_zret E rfl (by omega) ?_
      have hl42 : ∀ j : Nat, pw_g h 2 j = pw_g h 2 j := fun j => rfl
      exact ⟨I, E0, ⟨_, rfl, by omega, by omega, by omega, fun q => by omega, fun _ => hl42⟩⟩
    · intro hc43
      have hc43 : ¬ (x3 = (0 : Int)) := hc43
      exfalso; omega
set_option maxHeartbeats 4000000 in
theorem cm_201_t {X : List (Nat × List Value)} {d : Nat} {h : pm_H} (hd : 2 ≤ d) (I : pw_I h) (k : Int) (hk1 : (-2147483648) ≤ k) (hk2 : k ≤ 2147483647) (b : Int) (hb1 : (-2147483648) ≤ b) (hb2 : b ≤ 2147483647) (w : Int) (hw1 : (-2147483648) ≤ w) (hw2 : w ≤ 2147483647) (mx : Int) (hmx1 : (-2147483648) ≤ mx) (hmx2 : mx ≤ 2147483647) (z : Int) (hz1 : 0 ≤ z) (hz2 : z ≤ 1) : pw X d h 201 0 [some (.ref 141), some (pw_i k), some (pw_i b), some (pw_i w), some (pw_i mx), some (pw_i z)] [] (fun h' v => pw_I h' ∧ pw_E [125, 131, 132, 133, 134, 135] h h' ∧ ∃ a : Int, v = .inl (some (pw_i a)) ∧ 0 ≤ a ∧ a ≤ 1 ∧ (((a = 1 ∧ 0 ≤ k ∧ k ≤ 23 ∧ 0 ≤ b ∧ b ≤ 1 ∧ 0 ≤ w ∧ w ≤ 999 ∧ 0 ≤ mx ∧ mx ≤ 99) ∨ (a = 0 ∧ ¬ (0 ≤ k ∧ k ≤ 23 ∧ 0 ≤ b ∧ b ≤ 1 ∧ 0 ≤ w ∧ w ≤ 999 ∧ 0 ≤ mx ∧ mx ≤ 99))) ∧ (a = 1 → pw_g h' 131 k.toNat = 1 ∧ ∀ j : Nat, j ≠ k.toNat → pw_g h' 131 j = pw_g h 131 j) ∧ (a = 0 → ∀ j : Nat, pw_g h' 131 j = pw_g h 131 j))) := by
  have E : pm_ent 201 = some (6, 6, 12, 1, pmc_201) := rfl
  have E0 : pw_E [125, 131, 132, 133, 134, 135] h h := pw_E.rf _ _
  refine pw_ld E (pc' := 1) (st' := [.ref 141]) rfl (fun _ => rfl) ?_
  refine pw_ld E (pc' := 2) (st' := [pw_i 0, .ref 141]) rfl (fun _ => rfl) ?_
  refine pw_putI I E (c := 125) (k := 0) (pc' := 5) rfl rfl rfl rfl (by omega) (by omega) (by omega) (by omega) rfl rfl ?_
  intro h1I h1E
  generalize h1w : pw_w h 125 0 (pw_i 0) = h1 at h1I h1E ⊢
  have h1F := E0.tr (h1E.wk (W' := [125, 131, 132, 133, 134, 135]) (by first | rfl | simp))
  refine pw_ld E (pc' := 6) (st' := [pw_i k]) rfl (fun _ => rfl) ?_
  refine pw_ld E (pc' := 7) (st' := [pw_i 0, pw_i k]) rfl (fun _ => rfl) ?_
  refine pw_bip E (pc' := 9) rfl rfl (by decide) ?_
  refine pw_call (m' := 202) (As := [pw_i k, pw_i 0, pw_i 23]) (rest := []) (ls'' := [some (pw_i k), some (pw_i 0), some (pw_i 23)]) (by omega) E rfl (fun _ => pw_iS rfl rfl rfl) (rfl : pm_ent 202 = some (3, 3, 12, 1, pmc_202)) rfl rfl (cm_202 (by omega) h1I (k) (by omega) (by omega) (0) (by omega) (by omega) (23) (by omega) (by omega)) ?_
  rintro u3 v2 ⟨rfl, x4, rfl, hx4a, hx4b, hx4r⟩
  refine ⟨_, rfl, ?_⟩
  show pw X d h1 201 12 [some (.ref 141), some (pw_i k), some (pw_i b), some (pw_i w), some (pw_i mx), some (pw_i z)] [pw_i x4] _
  have hx4r : (x4 = 1 ∧ 0 ≤ k ∧ k ≤ 23) ∨ (x4 = 0 ∧ ¬ (0 ≤ k ∧ k ≤ 23)) := hx4r
  rcases (by omega : x4 = 1 ∨ x4 = 0) with hb5 | hb5
  · have hb5 : x4 = 1 := by omega
    refine pw_if E (pc' := 46) rfl (by decide) (by omega) (by omega) ?_ ?_
    · intro hc6
      have hc6 : x4 = (0 : Int) := hc6
      exfalso; omega
    · intro hc7
      have hc7 : ¬ (x4 = (0 : Int)) := hc7
      refine pw_ld E (pc' := 16) (st' := [pw_i b]) rfl (fun _ => rfl) ?_
      refine pw_ld E (pc' := 17) (st' := [pw_i 0, pw_i b]) rfl (fun _ => rfl) ?_
      refine pw_ld E (pc' := 18) (st' := [pw_i 1, pw_i 0, pw_i b]) rfl (fun _ => rfl) ?_
      refine pw_call (m' := 202) (As := [pw_i b, pw_i 0, pw_i 1]) (rest := []) (ls'' := [some (pw_i b), some (pw_i 0), some (pw_i 1)]) (by omega) E rfl (fun _ => pw_iS rfl rfl rfl) (rfl : pm_ent 202 = some (3, 3, 12, 1, pmc_202)) rfl rfl (cm_202 (by omega) h1I (b) (by omega) (by omega) (0) (by omega) (by omega) (1) (by omega) (by omega)) ?_
      rintro u9 v8 ⟨rfl, x10, rfl, hx10a, hx10b, hx10r⟩
      refine ⟨_, rfl, ?_⟩
      show pw X d h1 201 21 [some (.ref 141), some (pw_i k), some (pw_i b), some (pw_i w), some (pw_i mx), some (pw_i z)] [pw_i x10] _
      have hx10r : (x10 = 1 ∧ 0 ≤ b ∧ b ≤ 1) ∨ (x10 = 0 ∧ ¬ (0 ≤ b ∧ b ≤ 1)) := hx10r
      rcases (by omega : x10 = 1 ∨ x10 = 0) with hb11 | hb11
      · have hb11 : x10 = 1 := by omega
        refine pw_if E (pc' := 46) rfl (by decide) (by omega) (by omega) ?_ ?_
        · intro hc12
          have hc12 : x10 = (0 : Int) := hc12
          exfalso; omega
        · intro hc13
          have hc13 : ¬ (x10 = (0 : Int)) := hc13
          refine pw_ld E (pc' := 25) (st' := [pw_i w]) rfl (fun _ => rfl) ?_
          refine pw_ld E (pc' := 26) (st' := [pw_i 0, pw_i w]) rfl (fun _ => rfl) ?_
          refine pw_sip E (pc' := 29) rfl rfl (by decide) ?_
          refine pw_call (m' := 202) (As := [pw_i w, pw_i 0, pw_i 999]) (rest := []) (ls'' := [some (pw_i w), some (pw_i 0), some (pw_i 999)]) (by omega) E rfl (fun _ => pw_iS rfl rfl rfl) (rfl : pm_ent 202 = some (3, 3, 12, 1, pmc_202)) rfl rfl (cm_202 (by omega) h1I (w) (by omega) (by omega) (0) (by omega) (by omega) (999) (by omega) (by omega)) ?_
          rintro u15 v14 ⟨rfl, x16, rfl, hx16a, hx16b, hx16r⟩
          refine ⟨_, rfl, ?_⟩
          show pw X d h1 201 32 [some (.ref 141), some (pw_i k), some (pw_i b), some (pw_i w), some (pw_i mx), some (pw_i z)] [pw_i x16] _
          have hx16r : (x16 = 1 ∧ 0 ≤ w ∧ w ≤ 999) ∨ (x16 = 0 ∧ ¬ (0 ≤ w ∧ w ≤ 999)) := hx16r
          rcases (by omega : x16 = 1 ∨ x16 = 0) with hb17 | hb17
          · have hb17 : x16 = 1 := by omega
            refine pw_if E (pc' := 46) rfl (by decide) (by omega) (by omega) ?_ ?_
            · intro hc18
              have hc18 : x16 = (0 : Int) := hc18
              exfalso; omega
            · intro hc19
              have hc19 : ¬ (x16 = (0 : Int)) := hc19
              refine pw_ld E (pc' := 37) (st' := [pw_i mx]) rfl (fun _ => rfl) ?_
              refine pw_ld E (pc' := 38) (st' := [pw_i 0, pw_i mx]) rfl (fun _ => rfl) ?_
              refine pw_bip E (pc' := 40) rfl rfl (by decide) ?_
              refine pw_call (m' := 202) (As := [pw_i mx, pw_i 0, pw_i 99]) (rest := []) (ls'' := [some (pw_i mx), some (pw_i 0), some (pw_i 99)]) (by omega) E rfl (fun _ => pw_iS rfl rfl rfl) (rfl : pm_ent 202 = some (3, 3, 12, 1, pmc_202)) rfl rfl (cm_202 (by omega) h1I (mx) (by omega) (by omega) (0) (by omega) (by omega) (99) (by omega) (by omega)) ?_
              rintro u21 v20 ⟨rfl, x22, rfl, hx22a, hx22b, hx22r⟩
              refine ⟨_, rfl, ?_⟩
              show pw X d h1 201 43 [some (.ref 141), some (pw_i k), some (pw_i b), some (pw_i w), some (pw_i mx), some (pw_i z)] [pw_i x22] _
              have hx22r : (x22 = 1 ∧ 0 ≤ mx ∧ mx ≤ 99) ∨ (x22 = 0 ∧ ¬ (0 ≤ mx ∧ mx ≤ 99)) := hx22r
              rcases (by omega : x22 = 1 ∨ x22 = 0) with hb23 | hb23
              · have hb23 : x22 = 1 := by omega
                refine pw_if E (pc' := 48) rfl (by decide) (by omega) (by omega) ?_ ?_
                · intro hc24
                  have hc24 : x22 ≠ (0 : Int) := hc24
                  refine pw_ld E (pc' := 49) (st' := [.ref 141]) rfl (fun _ => rfl) ?_
                  refine pw_getR (b := 147) h1I E (c := 125) (k := 10) (pc' := 52) rfl rfl rfl rfl rfl rfl rfl ?_
                  refine pw_ld E (pc' := 53) (st' := [pw_i k, .ref 147]) rfl (fun _ => rfl) ?_
                  refine pw_ld E (pc' := 54) (st' := [pw_i 1, pw_i k, .ref 147]) rfl (fun _ => rfl) ?_
                  refine pw_ast0 h1I E (c := 131) (pc' := 55) rfl rfl rfl (by decide) rfl (by decide) (by omega) (by omega) (pw_b1 (by omega) (by omega)) (by omega) (by omega) (by omega) (by omega) rfl ?_
                  intro h25I h25E
                  generalize h25w : pw_w h1 131 (k.toNat) (pw_i 1) = h25 at h25I h25E ⊢
                  have h25F := h1F.tr (h25E.wk (W' := [125, 131, 132, 133, 134, 135]) (by first | rfl | simp))
                  refine pw_ld E (pc' := 56) (st' := [.ref 141]) rfl (fun _ => rfl) ?_
                  refine pw_getR (b := 148) h25I E (c := 125) (k := 11) (pc' := 59) rfl rfl rfl rfl rfl rfl rfl ?_
                  refine pw_ld E (pc' := 60) (st' := [pw_i k, .ref 148]) rfl (fun _ => rfl) ?_
                  refine pw_ld E (pc' := 61) (st' := [pw_i b, pw_i k, .ref 148]) rfl (fun _ => rfl) ?_
                  refine pw_ast0 h25I E (c := 132) (pc' := 62) rfl rfl rfl (by decide) rfl (by decide) (by omega) (by omega) rfl (by omega) (by omega) (by omega) (by omega) rfl ?_
                  intro h26I h26E
                  generalize h26w : pw_w h25 132 (k.toNat) (pw_i b) = h26 at h26I h26E ⊢
                  have h26F := h25F.tr (h26E.wk (W' := [125, 131, 132, 133, 134, 135]) (by first | rfl | simp))
                  refine pw_ld E (pc' := 63) (st' := [.ref 141]) rfl (fun _ => rfl) ?_
                  refine pw_getR (b := 149) h26I E (c := 125) (k := 12) (pc' := 66) rfl rfl rfl rfl rfl rfl rfl ?_
                  refine pw_ld E (pc' := 67) (st' := [pw_i k, .ref 149]) rfl (fun _ => rfl) ?_
                  refine pw_ld E (pc' := 68) (st' := [pw_i w, pw_i k, .ref 149]) rfl (fun _ => rfl) ?_
                  refine pw_ast0 h26I E (c := 133) (pc' := 69) rfl rfl rfl (by decide) rfl (by decide) (by omega) (by omega) rfl (by omega) (by omega) (by omega) (by omega) rfl ?_
                  intro h27I h27E
                  generalize h27w : pw_w h26 133 (k.toNat) (pw_i w) = h27 at h27I h27E ⊢
                  have h27F := h26F.tr (h27E.wk (W' := [125, 131, 132, 133, 134, 135]) (by first | rfl | simp))
                  refine pw_ld E (pc' := 70) (st' := [.ref 141]) rfl (fun _ => rfl) ?_
                  refine pw_getR (b := 150) h27I E (c := 125) (k := 13) (pc' := 73) rfl rfl rfl rfl rfl rfl rfl ?_
                  refine pw_ld E (pc' := 74) (st' := [pw_i k, .ref 150]) rfl (fun _ => rfl) ?_
                  refine pw_ld E (pc' := 76) (st' := [pw_i mx, pw_i k, .ref 150]) rfl (fun _ => rfl) ?_
                  refine pw_ast0 h27I E (c := 134) (pc' := 77) rfl rfl rfl (by decide) rfl (by decide) (by omega) (by omega) rfl (by omega) (by omega) (by omega) (by omega) rfl ?_
                  intro h28I h28E
                  generalize h28w : pw_w h27 134 (k.toNat) (pw_i mx) = h28 at h28I h28E ⊢
                  have h28F := h27F.tr (h28E.wk (W' := [125, 131, 132, 133, 134, 135]) (by first | rfl | simp))
                  refine pw_ld E (pc' := 78) (st' := [.ref 141]) rfl (fun _ => rfl) ?_
                  refine pw_getR (b := 151) h28I E (c := 125) (k := 14) (pc' := 81) rfl rfl rfl rfl rfl rfl rfl ?_
                  refine pw_ld E (pc' := 82) (st' := [pw_i k, .ref 151]) rfl (fun _ => rfl) ?_
                  refine pw_ld E (pc' := 84) (st' := [pw_i z, pw_i k, .ref 151]) rfl (fun _ => rfl) ?_
                  refine pw_ast0 h28I E (c := 135) (pc' := 85) rfl rfl rfl (by decide) rfl (by decide) (by omega) (by omega) (pw_b1 (by omega) (by omega)) (by omega) (by omega) (by omega) (by omega) rfl ?_
                  intro h29I h29E
                  generalize h29w : pw_w h28 135 (k.toNat) (pw_i z) = h29 at h29I h29E ⊢
                  have h29F := h28F.tr (h29E.wk (W' := [125, 131, 132, 133, 134, 135]) (by first | rfl | simp))
                  refine pw_ld E (pc' := 86) (st' := [pw_i 1]) rfl (fun _ => rfl) ?_
                  refine pw_zret E rfl (by omega) ?_
                  have hl30 : ∀ j : Nat, pw_g h29 131 j = pw_g h25 131 j := fun j => ((((by rw [← h29w]; exact pw_g_ne (by omega) : pw_g h29 131 j = pw_g h28 131 j)).trans (by rw [← h28w]; exact pw_g_ne (by omega) : pw_g h28 131 j = pw_g h27 131 j)).trans (by rw [← h27w]; exact pw_g_ne (by omega) : pw_g h27 131 j = pw_g h26 131 j)).trans (by rw [← h26w]; exact pw_g_ne (by omega) : pw_g h26 131 j = pw_g h25 131 j)
                  have hl31 : ∀ j : Nat, pw_g h1 131 j = pw_g h 131 j := fun j => (by rw [← h1w]; exact pw_g_ne (by omega) : pw_g h1 131 j = pw_g h 131 j)
                  have hp1 : pw_g h25 131 (k.toNat) = 1 := by rw [← h25w]; exact pw_g_eqA h1I rfl (by omega) (by omega) (by omega)
                  have hp2 : ∀ j : Nat, j ≠ k.toNat → pw_g h25 131 j = pw_g h1 131 j := fun j hj => by rw [← h25w]; exact pw_g_ne (fun q => hj q.2.symm)
                  exact ⟨h29I, h29F, ⟨_, rfl, by omega, by omega, by omega, fun _ => ⟨(hl30 _).trans hp1, fun j hj => (hl30 j).trans ((hp2 j hj).trans (hl31 j))⟩, fun q => by omega⟩⟩
                · intro hc32
                  have hc32 : ¬ (x22 ≠ (0 : Int)) := hc32
                  exfalso; omega
              · have hb33 : x22 = 0 := by omega
                refine pw_if E (pc' := 48) rfl (by decide) (by omega) (by omega) ?_ ?_
                · intro hc34
                  have hc34 : x22 ≠ (0 : Int) := hc34
                  exfalso; omega
                · intro hc35
                  have hc35 : ¬ (x22 ≠ (0 : Int)) := hc35
                  refine pw_ld E (pc' := 47) (st' := [pw_i 0]) rfl (fun _ => rfl) ?_
                  refine pw_zret E rfl (by omega) ?_
                  have hl36 : ∀ j : Nat, pw_g h1 131 j = pw_g h 131 j := fun j => (by rw [← h1w]; exact pw_g_ne (by omega) : pw_g h1 131 j = pw_g h 131 j)
                  exact ⟨h1I, h1F, ⟨_, rfl, by omega, by omega, by omega, fun q => by omega, fun _ => hl36⟩⟩
          · have hb37 : x16 = 0 := by omega
            refine pw_if E (pc' := 46) rfl (by decide) (by omega) (by omega) ?_ ?_
            · intro hc38
              have hc38 : x16 = (0 : Int) := hc38
              refine pw_ld E (pc' := 47) (st' := [pw_i 0]) rfl (fun _ => rfl) ?_
              refine pw_zret E rfl (by omega) ?_
              have hl39 : ∀ j : Nat, pw_g h1 131 j = pw_g h 131 j := fun j => (by rw [← h1w]; exact pw_g_ne (by omega) : pw_g h1 131 j = pw_g h 131 j)
              exact ⟨h1I, h1F, ⟨_, rfl, by omega, by omega, by omega, fun q => by omega, fun _ => hl39⟩⟩
            · intro hc40
              have hc40 : ¬ (x16 = (0 : Int)) := hc40
              exfalso; omega
      · have hb41 : x10 = 0 := by omega
        refine pw_if E (pc' := 46) rfl (by decide) (by omega) (by omega) ?_ ?_
        · intro hc42
          have hc42 : x10 = (0 : Int) := hc42
          refine pw_ld E (pc' := 47) (st' := [pw_i 0]) rfl (fun _ => rfl) ?_
          refine pw_zret E rfl (by omega) ?_
          have hl43 : ∀ j : Nat, pw_g h1 131 j = pw_g h 131 j := fun j => (by rw [← h1w]; exact pw_g_ne (by omega) : pw_g h1 131 j = pw_g h 131 j)
          exact ⟨h1I, h1F, ⟨_, rfl, by omega, by omega, by omega, fun q => by omega, fun _ => hl43⟩⟩
        · intro hc44
          have hc44 : ¬ (x10 = (0 : Int)) := hc44
          exfalso; omega
  · have hb45 : x4 = 0 := by omega
    refine pw_if E (pc' := 46) rfl (by decide) (by omega) (by omega) ?_ ?_
    · intro hc46
      have hc46 : x4 = (0 : Int) := hc46
      refine pw_ld E (pc' := 47) (st' := [pw_i 0]) rfl (fun _ => rfl) ?_
      refine pw_zret E rfl (by omega) ?_
      have hl47 : ∀ j : Nat, pw_g h1 131 j = pw_g h 131 j := fun j => (by rw [← h1w]; exact pw_g_ne (by omega) : pw_g h1 131 j = pw_g h 131 j)
      exact ⟨h1I, h1F, ⟨_, rfl, by omega, by omega, by omega, fun q => by omega, fun _ => hl47⟩⟩
    · intro hc48
      have hc48 : ¬ (x4 = (0 : Int)) := hc48
      exfalso; omega
set_option maxHeartbeats 4000000 in
theorem cm_124_t {X : List (Nat × List Value)} {d : Nat} {h : pm_H} (hd : 3 ≤ d) (I : pw_I h) (k : Int) (hk1 : (-2147483648) ≤ k) (hk2 : k ≤ 2147483647) : pw X d h 124 0 [some (.ref 16), some (pw_i k)] [] (fun h' v => h = h' ∧ ∃ a : Int, v = .inl (some (pw_i a)) ∧ 0 ≤ a ∧ a ≤ 1 ∧ ((a = 1 ∧ 0 ≤ k ∧ k ≤ 23 ∧ pw_g h 2 k.toNat = 1) ∨ (a = 0 ∧ ¬ (0 ≤ k ∧ k ≤ 23 ∧ pw_g h 2 k.toNat = 1)))) := by
  have E : pm_ent 124 = some (2, 2, 11, 1, pmc_124) := rfl
  refine pw_ld E (pc' := 1) (st' := [pw_i k]) rfl (fun _ => rfl) ?_
  refine pw_call (m' := 120) (As := [pw_i k]) (rest := []) (ls'' := [some (pw_i k)]) (by omega) E rfl (fun _ => pw_iS rfl rfl rfl) (rfl : pm_ent 120 = some (1, 1, 11, 1, pmc_120)) rfl rfl (cm_120 (by omega) I (k) (by omega) (by omega)) ?_
  rintro u2 v1 ⟨rfl, x3, rfl, hx3a, hx3b, hx3r⟩
  refine ⟨_, rfl, ?_⟩
  show pw X d h 124 4 [some (.ref 16), some (pw_i k)] [pw_i x3] _
  have hx3r : (x3 = 1 ∧ 0 ≤ k ∧ k ≤ 23) ∨ (x3 = 0 ∧ ¬ (0 ≤ k ∧ k ≤ 23)) := hx3r
  rcases (by omega : x3 = 1 ∨ x3 = 0) with hb4 | hb4
  · have hb4 : x3 = 1 := by omega
    refine pw_if E (pc' := 22) rfl (by decide) (by omega) (by omega) ?_ ?_
    · intro hc5
      have hc5 : x3 = (0 : Int) := hc5
      exfalso; omega
    · intro hc6
      have hc6 : ¬ (x3 = (0 : Int)) := hc6
      refine pw_ld E (pc' := 8) (st' := [.ref 16]) rfl (fun _ => rfl) ?_
      refine pw_getR (b := 17) I E (c := 0) (k := 0) (pc' := 11) rfl rfl rfl rfl rfl rfl rfl ?_
      refine pw_ld E (pc' := 12) (st' := [pw_i k, .ref 17]) rfl (fun _ => rfl) ?_
      obtain ⟨f7l, f7h, -⟩ := pw_obj (c := 1) I rfl
      refine pw_call (m' := 59) (As := [.ref 17, pw_i k]) (rest := []) (ls'' := [some (.ref 17), some (pw_i k)]) (by omega) E rfl (fun _ => pw_iV rfl rfl rfl rfl (pw_cellI f7h rfl)) (rfl : pm_ent 59 = some (2, 2, 6, 1, pmc_59)) rfl rfl (cm_59 (by omega) I (k) (by omega) (by omega)) ?_
      rintro u9 v8 ⟨rfl, x10, rfl, hx10a, hx10b, hx10r⟩
      refine ⟨_, rfl, ?_⟩
      show pw X d h 124 15 [some (.ref 16), some (pw_i k)] [pw_i x10] _
      have hx10r : x10 = pw_g h 2 k.toNat := hx10r
      rcases (by omega : x10 = 1 ∨ x10 = 0) with hb11 | hb11
      · have hb11 : x10 = 1 := by omega
        refine pw_if E (pc' := 22) rfl (by decide) (by omega) (by omega) ?_ ?_
        · intro hc12
          have hc12 : x10 = (0 : Int) := hc12
          exfalso; omega
        · intro hc13
          have hc13 : ¬ (x10 = (0 : Int)) := hc13
          refine pw_ld E (pc' := 19) (st' := [pw_i 1]) rfl (fun _ => rfl) ?_
          refine pw_goto E (pc' := 23) rfl (by decide) ?_
          refine pw_zret E rfl (by omega) ?_
          exact ⟨rfl, ⟨_, rfl, by omega, by omega, by omega⟩⟩
      · have hb14 : x10 = 0 := by omega
        refine pw_if E (pc' := 22) rfl (by decide) (by omega) (by omega) ?_ ?_
        · intro hc15
          have hc15 : x10 = (0 : Int) := hc15
          refine pw_ld E (pc' := 23) (st' := [pw_i 0]) rfl (fun _ => rfl) ?_
          refine pw_zret E rfl (by omega) ?_
          exact ⟨rfl, ⟨_, rfl, by omega, by omega, by omega⟩⟩
        · intro hc16
          have hc16 : ¬ (x10 = (0 : Int)) := hc16
          exfalso; omega
  · have hb17 : x3 = 0 := by omega
    refine pw_if E (pc' := 22) rfl (by decide) (by omega) (by omega) ?_ ?_
    · intro hc18
      have hc18 : x3 = (0 : Int) := hc18
      refine pw_ld E (pc' := 23) (st' := [pw_i 0]) rfl (fun _ => rfl) ?_
      refine pw_zret E rfl (by omega) ?_
      exact ⟨rfl, ⟨_, rfl, by omega, by omega, by omega⟩⟩
    · intro hc19
      have hc19 : ¬ (x3 = (0 : Int)) := hc19
      exfalso; omega
set_option maxHeartbeats 4000000 in
theorem cm_204_t {X : List (Nat × List Value)} {d : Nat} {h : pm_H} (hd : 2 ≤ d) (I : pw_I h) (k : Int) (hk1 : (-2147483648) ≤ k) (hk2 : k ≤ 2147483647) : pw X d h 204 0 [some (.ref 141), some (pw_i k)] [] (fun h' v => h = h' ∧ ∃ a : Int, v = .inl (some (pw_i a)) ∧ 0 ≤ a ∧ a ≤ 1 ∧ ((a = 1 ∧ 0 ≤ k ∧ k ≤ 23 ∧ pw_g h 131 k.toNat = 1) ∨ (a = 0 ∧ ¬ (0 ≤ k ∧ k ≤ 23 ∧ pw_g h 131 k.toNat = 1)))) := by
  have E : pm_ent 204 = some (2, 2, 12, 1, pmc_204) := rfl
  refine pw_ld E (pc' := 1) (st' := [pw_i k]) rfl (fun _ => rfl) ?_
  refine pw_ld E (pc' := 2) (st' := [pw_i 0, pw_i k]) rfl (fun _ => rfl) ?_
  refine pw_bip E (pc' := 4) rfl rfl (by decide) ?_
  refine pw_call (m' := 202) (As := [pw_i k, pw_i 0, pw_i 23]) (rest := []) (ls'' := [some (pw_i k), some (pw_i 0), some (pw_i 23)]) (by omega) E rfl (fun _ => pw_iS rfl rfl rfl) (rfl : pm_ent 202 = some (3, 3, 12, 1, pmc_202)) rfl rfl (cm_202 (by omega) I (k) (by omega) (by omega) (0) (by omega) (by omega) (23) (by omega) (by omega)) ?_
  rintro u2 v1 ⟨rfl, x3, rfl, hx3a, hx3b, hx3r⟩
  refine ⟨_, rfl, ?_⟩
  show pw X d h 204 7 [some (.ref 141), some (pw_i k)] [pw_i x3] _
  have hx3r : (x3 = 1 ∧ 0 ≤ k ∧ k ≤ 23) ∨ (x3 = 0 ∧ ¬ (0 ≤ k ∧ k ≤ 23)) := hx3r
  rcases (by omega : x3 = 1 ∨ x3 = 0) with hb4 | hb4
  · have hb4 : x3 = 1 := by omega
    refine pw_if E (pc' := 23) rfl (by decide) (by omega) (by omega) ?_ ?_
    · intro hc5
      have hc5 : x3 = (0 : Int) := hc5
      exfalso; omega
    · intro hc6
      have hc6 : ¬ (x3 = (0 : Int)) := hc6
      refine pw_ld E (pc' := 11) (st' := [.ref 141]) rfl (fun _ => rfl) ?_
      refine pw_getR (b := 147) I E (c := 125) (k := 10) (pc' := 14) rfl rfl rfl rfl rfl rfl rfl ?_
      refine pw_ld E (pc' := 15) (st' := [pw_i k, .ref 147]) rfl (fun _ => rfl) ?_
      refine pw_ald I E (c := 131) (pc' := 16) rfl rfl rfl (by decide) rfl (by decide) (by omega) (by omega) rfl (fun hf7a hf7b hf7c hf7d => ?_)
      refine pw_if E (pc' := 23) rfl (by decide) (by omega) (by omega) ?_ ?_
      · intro hc8
        have hc8 : pw_g h 131 (k.toNat) = (0 : Int) := hc8
        refine pw_ld E (pc' := 24) (st' := [pw_i 0]) rfl (fun _ => rfl) ?_
        refine pw_zret E rfl (by omega) ?_
        exact ⟨rfl, ⟨_, rfl, by omega, by omega, by omega⟩⟩
      · intro hc9
        have hc9 : ¬ (pw_g h 131 (k.toNat) = (0 : Int)) := hc9
        refine pw_ld E (pc' := 20) (st' := [pw_i 1]) rfl (fun _ => rfl) ?_
        refine pw_goto E (pc' := 24) rfl (by decide) ?_
        refine pw_zret E rfl (by omega) ?_
        exact ⟨rfl, ⟨_, rfl, by omega, by omega, by omega⟩⟩
  · have hb10 : x3 = 0 := by omega
    refine pw_if E (pc' := 23) rfl (by decide) (by omega) (by omega) ?_ ?_
    · intro hc11
      have hc11 : x3 = (0 : Int) := hc11
      refine pw_ld E (pc' := 24) (st' := [pw_i 0]) rfl (fun _ => rfl) ?_
      refine pw_zret E rfl (by omega) ?_
      exact ⟨rfl, ⟨_, rfl, by omega, by omega, by omega⟩⟩
    · intro hc12
      have hc12 : ¬ (x3 = (0 : Int)) := hc12
      exfalso; omega
set_option maxHeartbeats 4000000 in
theorem cm_123_t {X : List (Nat × List Value)} {d : Nat} {h : pm_H} (hd : 4 ≤ d) (I : pw_I h) (k : Int) (hk1 : (-2147483648) ≤ k) (hk2 : k ≤ 2147483647) (mo : Int) (hmo1 : (-2147483648) ≤ mo) (hmo2 : mo ≤ 2147483647) (wh : Int) (hwh1 : (-2147483648) ≤ wh) (hwh2 : wh ≤ 2147483647) (hf : Int) (hhf1 : (-2147483648) ≤ hf) (hhf2 : hf ≤ 2147483647) : pw X d h 123 0 [some (.ref 16), some (pw_i k), some (pw_i mo), some (pw_i wh), some (pw_i hf)] [] (fun h' v => pw_I h' ∧ pw_E [11] h h' ∧ ∃ a : Int, v = .inl (some (pw_i a)) ∧ 0 ≤ a ∧ a ≤ 1 ∧ ((a = 1 ∧ 0 ≤ k ∧ k ≤ 23 ∧ pw_g h 2 k.toNat = 1 ∧ 0 ≤ mo ∧ mo ≤ 11 ∧ ((wh = -1 ∧ hf = -1) ∨ (0 ≤ wh ∧ wh ≤ 99 ∧ hf = -1) ∨ (0 ≤ wh ∧ wh ≤ 99 ∧ 0 ≤ hf ∧ hf ≤ 99))) ∨ (a = 0 ∧ ¬ (0 ≤ k ∧ k ≤ 23 ∧ pw_g h 2 k.toNat = 1 ∧ 0 ≤ mo ∧ mo ≤ 11 ∧ ((wh = -1 ∧ hf = -1) ∨ (0 ≤ wh ∧ wh ≤ 99 ∧ hf = -1) ∨ (0 ≤ wh ∧ wh ≤ 99 ∧ 0 ≤ hf ∧ hf ≤ 99)))))) := by
  have E : pm_ent 123 = some (5, 5, 11, 1, pmc_123) := rfl
  have E0 : pw_E [11] h h := pw_E.rf _ _
  refine pw_ld E (pc' := 1) (st' := [.ref 16]) rfl (fun _ => rfl) ?_
  refine pw_ld E (pc' := 2) (st' := [pw_i k, .ref 16]) rfl (fun _ => rfl) ?_
  obtain ⟨f1l, f1h, -⟩ := pw_obj (c := 0) I rfl
  refine pw_call (m' := 124) (As := [.ref 16, pw_i k]) (rest := []) (ls'' := [some (.ref 16), some (pw_i k)]) (by omega) E rfl (fun _ => pw_iV rfl rfl rfl rfl (pw_cellI f1h rfl)) (rfl : pm_ent 124 = some (2, 2, 11, 1, pmc_124)) rfl rfl (cm_124_t (by omega) I (k) (by omega) (by omega)) ?_
  rintro u3 v2 ⟨rfl, x4, rfl, hx4a, hx4b, hx4r⟩
  refine ⟨_, rfl, ?_⟩
  show pw X d h 123 5 [some (.ref 16), some (pw_i k), some (pw_i mo), some (pw_i wh), some (pw_i hf)] [pw_i x4] _
  have hx4r : (x4 = 1 ∧ 0 ≤ k ∧ k ≤ 23 ∧ pw_g h 2 k.toNat = 1) ∨ (x4 = 0 ∧ ¬ (0 ≤ k ∧ k ≤ 23 ∧ pw_g h 2 k.toNat = 1)) := hx4r
  rcases (by omega : x4 = 1 ∨ x4 = 0) with hb5 | hb5
  · have hb5 : x4 = 1 := by omega
    refine pw_if E (pc' := 15) rfl (by decide) (by omega) (by omega) ?_ ?_
    · intro hc6
      have hc6 : x4 = (0 : Int) := hc6
      exfalso; omega
    · intro hc7
      have hc7 : ¬ (x4 = (0 : Int)) := hc7
      refine pw_ld E (pc' := 9) (st' := [pw_i mo]) rfl (fun _ => rfl) ?_
      refine pw_call (m' := 125) (As := [pw_i mo]) (rest := []) (ls'' := [some (pw_i mo)]) (by omega) E rfl (fun _ => pw_iS rfl rfl rfl) (rfl : pm_ent 125 = some (1, 1, 11, 1, pmc_125)) rfl rfl (cm_125 (by omega) I (mo) (by omega) (by omega)) ?_
      rintro u9 v8 ⟨rfl, x10, rfl, hx10a, hx10b, hx10r⟩
      refine ⟨_, rfl, ?_⟩
      show pw X d h 123 12 [some (.ref 16), some (pw_i k), some (pw_i mo), some (pw_i wh), some (pw_i hf)] [pw_i x10] _
      have hx10r : (x10 = 1 ∧ 0 ≤ mo ∧ mo ≤ 11) ∨ (x10 = 0 ∧ ¬ (0 ≤ mo ∧ mo ≤ 11)) := hx10r
      rcases (by omega : x10 = 1 ∨ x10 = 0) with hb11 | hb11
      · have hb11 : x10 = 1 := by omega
        refine pw_if E (pc' := 17) rfl (by decide) (by omega) (by omega) ?_ ?_
        · intro hc12
          have hc12 : x10 ≠ (0 : Int) := hc12
          refine pw_ld E (pc' := 18) (st' := [pw_i wh]) rfl (fun _ => rfl) ?_
          refine pw_ld E (pc' := 19) (st' := [pw_i ((-1)), pw_i wh]) rfl (fun _ => rfl) ?_
          refine pw_if2 E (pc' := 39) rfl (by decide) (by omega) (by omega) (by decide) (by decide) ?_ ?_
          · intro hc13
            have hc13 : wh ≠ ((-1) : Int) := hc13
            refine pw_ld E (pc' := 40) (st' := [pw_i wh]) rfl (fun _ => rfl) ?_
            refine pw_ld E (pc' := 41) (st' := [pw_i 0, pw_i wh]) rfl (fun _ => rfl) ?_
            refine pw_bip E (pc' := 43) rfl rfl (by decide) ?_
            refine pw_call (m' := 121) (As := [pw_i wh, pw_i 0, pw_i 99]) (rest := []) (ls'' := [some (pw_i wh), some (pw_i 0), some (pw_i 99)]) (by omega) E rfl (fun _ => pw_iS rfl rfl rfl) (rfl : pm_ent 121 = some (3, 3, 11, 1, pmc_121)) rfl rfl (cm_121 (by omega) I (wh) (by omega) (by omega) (0) (by omega) (by omega) (99) (by omega) (by omega)) ?_
            rintro u15 v14 ⟨rfl, x16, rfl, hx16a, hx16b, hx16r⟩
            refine ⟨_, rfl, ?_⟩
            show pw X d h 123 46 [some (.ref 16), some (pw_i k), some (pw_i mo), some (pw_i wh), some (pw_i hf)] [pw_i x16] _
            have hx16r : (x16 = 1 ∧ 0 ≤ wh ∧ wh ≤ 99) ∨ (x16 = 0 ∧ ¬ (0 ≤ wh ∧ wh ≤ 99)) := hx16r
            rcases (by omega : x16 = 1 ∨ x16 = 0) with hb17 | hb17
            · have hb17 : x16 = 1 := by omega
              refine pw_if E (pc' := 51) rfl (by decide) (by omega) (by omega) ?_ ?_
              · intro hc18
                have hc18 : x16 ≠ (0 : Int) := hc18
                refine pw_ld E (pc' := 53) (st' := [pw_i hf]) rfl (fun _ => rfl) ?_
                refine pw_ld E (pc' := 54) (st' := [pw_i ((-1)), pw_i hf]) rfl (fun _ => rfl) ?_
                refine pw_if2 E (pc' := 68) rfl (by decide) (by omega) (by omega) (by decide) (by decide) ?_ ?_
                · intro hc19
                  have hc19 : hf ≠ ((-1) : Int) := hc19
                  refine pw_ld E (pc' := 70) (st' := [pw_i hf]) rfl (fun _ => rfl) ?_
                  refine pw_ld E (pc' := 71) (st' := [pw_i 0, pw_i hf]) rfl (fun _ => rfl) ?_
                  refine pw_bip E (pc' := 73) rfl rfl (by decide) ?_
                  refine pw_call (m' := 121) (As := [pw_i hf, pw_i 0, pw_i 99]) (rest := []) (ls'' := [some (pw_i hf), some (pw_i 0), some (pw_i 99)]) (by omega) E rfl (fun _ => pw_iS rfl rfl rfl) (rfl : pm_ent 121 = some (3, 3, 11, 1, pmc_121)) rfl rfl (cm_121 (by omega) I (hf) (by omega) (by omega) (0) (by omega) (by omega) (99) (by omega) (by omega)) ?_
                  rintro u21 v20 ⟨rfl, x22, rfl, hx22a, hx22b, hx22r⟩
                  refine ⟨_, rfl, ?_⟩
                  show pw X d h 123 76 [some (.ref 16), some (pw_i k), some (pw_i mo), some (pw_i wh), some (pw_i hf)] [pw_i x22] _
                  have hx22r : (x22 = 1 ∧ 0 ≤ hf ∧ hf ≤ 99) ∨ (x22 = 0 ∧ ¬ (0 ≤ hf ∧ hf ≤ 99)) := hx22r
                  rcases (by omega : x22 = 1 ∨ x22 = 0) with hb23 | hb23
                  · have hb23 : x22 = 1 := by omega
                    refine pw_if E (pc' := 81) rfl (by decide) (by omega) (by omega) ?_ ?_
                    · intro hc24
                      have hc24 : x22 ≠ (0 : Int) := hc24
                      refine pw_ld E (pc' := 82) (st' := [.ref 16]) rfl (fun _ => rfl) ?_
                      refine pw_getR (b := 26) I E (c := 0) (k := 2) (pc' := 85) rfl rfl rfl rfl rfl rfl rfl ?_
                      refine pw_ld E (pc' := 86) (st' := [pw_i k, .ref 26]) rfl (fun _ => rfl) ?_
                      refine pw_ld E (pc' := 87) (st' := [pw_i mo, pw_i k, .ref 26]) rfl (fun _ => rfl) ?_
                      refine pw_ld E (pc' := 88) (st' := [pw_i wh, pw_i mo, pw_i k, .ref 26]) rfl (fun _ => rfl) ?_
                      refine pw_ld E (pc' := 90) (st' := [pw_i hf, pw_i wh, pw_i mo, pw_i k, .ref 26]) rfl (fun _ => rfl) ?_
                      obtain ⟨f25l, f25h, -⟩ := pw_obj (c := 10) I rfl
                      refine pw_call (m' := 18) (As := [.ref 26, pw_i k, pw_i mo, pw_i wh, pw_i hf]) (rest := []) (ls'' := [some (.ref 26), some (pw_i k), some (pw_i mo), some (pw_i wh), some (pw_i hf)]) (by omega) E rfl (fun _ => pw_iV rfl rfl rfl rfl (pw_cellI f25h rfl)) (rfl : pm_ent 18 = some (5, 5, 2, 4, pmc_18)) rfl rfl (cm_18 (by omega) I 10 (by unfold pw_Lg; omega) (k) (by omega) (by omega) (mo) (by omega) (by omega) (wh) (by omega) (by omega) (hf) (by omega) (by omega)) ?_
                      rintro h26 v27 ⟨h26I, h26E, rfl⟩
                      refine ⟨_, rfl, ?_⟩
                      have h26F := E0.tr (h26E.wk (W' := [11]) (by first | rfl | simp))
                      show pw X d h26 123 93 [some (.ref 16), some (pw_i k), some (pw_i mo), some (pw_i wh), some (pw_i hf)] [] _
                      refine pw_ld E (pc' := 94) (st' := [pw_i 1]) rfl (fun _ => rfl) ?_
                      refine pw_zret E rfl (by omega) ?_
                      exact ⟨h26I, h26F, ⟨_, rfl, by omega, by omega, by omega⟩⟩
                    · intro hc28
                      have hc28 : ¬ (x22 ≠ (0 : Int)) := hc28
                      exfalso; omega
                  · have hb29 : x22 = 0 := by omega
                    refine pw_if E (pc' := 81) rfl (by decide) (by omega) (by omega) ?_ ?_
                    · intro hc30
                      have hc30 : x22 ≠ (0 : Int) := hc30
                      exfalso; omega
                    · intro hc31
                      have hc31 : ¬ (x22 ≠ (0 : Int)) := hc31
                      refine pw_ld E (pc' := 80) (st' := [pw_i 0]) rfl (fun _ => rfl) ?_
                      refine pw_zret E rfl (by omega) ?_
                      exact ⟨I, E0, ⟨_, rfl, by omega, by omega, by omega⟩⟩
                · intro hc32
                  have hc32 : ¬ (hf ≠ ((-1) : Int)) := hc32
                  refine pw_ld E (pc' := 58) (st' := [.ref 16]) rfl (fun _ => rfl) ?_
                  refine pw_getR (b := 26) I E (c := 0) (k := 2) (pc' := 61) rfl rfl rfl rfl rfl rfl rfl ?_
                  refine pw_ld E (pc' := 62) (st' := [pw_i k, .ref 26]) rfl (fun _ => rfl) ?_
                  refine pw_ld E (pc' := 63) (st' := [pw_i mo, pw_i k, .ref 26]) rfl (fun _ => rfl) ?_
                  obtain ⟨f33l, f33h, -⟩ := pw_obj (c := 10) I rfl
                  refine pw_call (m' := 17) (As := [.ref 26, pw_i k, pw_i mo]) (rest := []) (ls'' := [some (.ref 26), some (pw_i k), some (pw_i mo)]) (by omega) E rfl (fun _ => pw_iV rfl rfl rfl rfl (pw_cellI f33h rfl)) (rfl : pm_ent 17 = some (3, 3, 2, 4, pmc_17)) rfl rfl (cm_17 (by omega) I 10 (by unfold pw_Lg; omega) (k) (by omega) (by omega) (mo) (by omega) (by omega)) ?_
                  rintro h34 v35 ⟨h34I, h34E, rfl⟩
                  refine ⟨_, rfl, ?_⟩
                  have h34F := E0.tr (h34E.wk (W' := [11]) (by first | rfl | simp))
                  show pw X d h34 123 66 [some (.ref 16), some (pw_i k), some (pw_i mo), some (pw_i wh), some (pw_i hf)] [] _
                  refine pw_ld E (pc' := 67) (st' := [pw_i 1]) rfl (fun _ => rfl) ?_
                  refine pw_zret E rfl (by omega) ?_
                  exact ⟨h34I, h34F, ⟨_, rfl, by omega, by omega, by omega⟩⟩
              · intro hc36
                have hc36 : ¬ (x16 ≠ (0 : Int)) := hc36
                exfalso; omega
            · have hb37 : x16 = 0 := by omega
              refine pw_if E (pc' := 51) rfl (by decide) (by omega) (by omega) ?_ ?_
              · intro hc38
                have hc38 : x16 ≠ (0 : Int) := hc38
                exfalso; omega
              · intro hc39
                have hc39 : ¬ (x16 ≠ (0 : Int)) := hc39
                refine pw_ld E (pc' := 50) (st' := [pw_i 0]) rfl (fun _ => rfl) ?_
                refine pw_zret E rfl (by omega) ?_
                exact ⟨I, E0, ⟨_, rfl, by omega, by omega, by omega⟩⟩
          · intro hc40
            have hc40 : ¬ (wh ≠ ((-1) : Int)) := hc40
            refine pw_ld E (pc' := 24) (st' := [pw_i hf]) rfl (fun _ => rfl) ?_
            refine pw_ld E (pc' := 25) (st' := [pw_i ((-1)), pw_i hf]) rfl (fun _ => rfl) ?_
            refine pw_if2 E (pc' := 39) rfl (by decide) (by omega) (by omega) (by decide) (by decide) ?_ ?_
            · intro hc41
              have hc41 : hf ≠ ((-1) : Int) := hc41
              refine pw_ld E (pc' := 40) (st' := [pw_i wh]) rfl (fun _ => rfl) ?_
              refine pw_ld E (pc' := 41) (st' := [pw_i 0, pw_i wh]) rfl (fun _ => rfl) ?_
              refine pw_bip E (pc' := 43) rfl rfl (by decide) ?_
              refine pw_call (m' := 121) (As := [pw_i wh, pw_i 0, pw_i 99]) (rest := []) (ls'' := [some (pw_i wh), some (pw_i 0), some (pw_i 99)]) (by omega) E rfl (fun _ => pw_iS rfl rfl rfl) (rfl : pm_ent 121 = some (3, 3, 11, 1, pmc_121)) rfl rfl (cm_121 (by omega) I (wh) (by omega) (by omega) (0) (by omega) (by omega) (99) (by omega) (by omega)) ?_
              rintro u43 v42 ⟨rfl, x44, rfl, hx44a, hx44b, hx44r⟩
              refine ⟨_, rfl, ?_⟩
              show pw X d h 123 46 [some (.ref 16), some (pw_i k), some (pw_i mo), some (pw_i wh), some (pw_i hf)] [pw_i x44] _
              have hx44r : (x44 = 1 ∧ 0 ≤ wh ∧ wh ≤ 99) ∨ (x44 = 0 ∧ ¬ (0 ≤ wh ∧ wh ≤ 99)) := hx44r
              rcases (by omega : x44 = 1 ∨ x44 = 0) with hb45 | hb45
              · have hb45 : x44 = 1 := by omega
                refine pw_if E (pc' := 51) rfl (by decide) (by omega) (by omega) ?_ ?_
                · intro hc46
                  have hc46 : x44 ≠ (0 : Int) := hc46
                  exfalso; omega
                · intro hc47
                  have hc47 : ¬ (x44 ≠ (0 : Int)) := hc47
                  exfalso; omega
              · have hb48 : x44 = 0 := by omega
                refine pw_if E (pc' := 51) rfl (by decide) (by omega) (by omega) ?_ ?_
                · intro hc49
                  have hc49 : x44 ≠ (0 : Int) := hc49
                  exfalso; omega
                · intro hc50
                  have hc50 : ¬ (x44 ≠ (0 : Int)) := hc50
                  refine pw_ld E (pc' := 50) (st' := [pw_i 0]) rfl (fun _ => rfl) ?_
                  refine pw_zret E rfl (by omega) ?_
                  exact ⟨I, E0, ⟨_, rfl, by omega, by omega, by omega⟩⟩
            · intro hc51
              have hc51 : ¬ (hf ≠ ((-1) : Int)) := hc51
              refine pw_ld E (pc' := 29) (st' := [.ref 16]) rfl (fun _ => rfl) ?_
              refine pw_getR (b := 26) I E (c := 0) (k := 2) (pc' := 32) rfl rfl rfl rfl rfl rfl rfl ?_
              refine pw_ld E (pc' := 33) (st' := [pw_i k, .ref 26]) rfl (fun _ => rfl) ?_
              refine pw_ld E (pc' := 34) (st' := [pw_i mo, pw_i k, .ref 26]) rfl (fun _ => rfl) ?_
              obtain ⟨f52l, f52h, -⟩ := pw_obj (c := 10) I rfl
              refine pw_call (m' := 16) (As := [.ref 26, pw_i k, pw_i mo]) (rest := []) (ls'' := [some (.ref 26), some (pw_i k), some (pw_i mo)]) (by omega) E rfl (fun _ => pw_iV rfl rfl rfl rfl (pw_cellI f52h rfl)) (rfl : pm_ent 16 = some (3, 3, 2, 4, pmc_16)) rfl rfl (cm_16 (by omega) I 10 (by unfold pw_Lg; omega) (k) (by omega) (by omega) (mo) (by omega) (by omega)) ?_
              rintro h53 v54 ⟨h53I, h53E, rfl⟩
              refine ⟨_, rfl, ?_⟩
              have h53F := E0.tr (h53E.wk (W' := [11]) (by first | rfl | simp))
              show pw X d h53 123 37 [some (.ref 16), some (pw_i k), some (pw_i mo), some (pw_i wh), some (pw_i hf)] [] _
              refine pw_ld E (pc' := 38) (st' := [pw_i 1]) rfl (fun _ => rfl) ?_
              refine pw_zret E rfl (by omega) ?_
              exact ⟨h53I, h53F, ⟨_, rfl, by omega, by omega, by omega⟩⟩
        · intro hc55
          have hc55 : ¬ (x10 ≠ (0 : Int)) := hc55
          exfalso; omega
      · have hb56 : x10 = 0 := by omega
        refine pw_if E (pc' := 17) rfl (by decide) (by omega) (by omega) ?_ ?_
        · intro hc57
          have hc57 : x10 ≠ (0 : Int) := hc57
          exfalso; omega
        · intro hc58
          have hc58 : ¬ (x10 ≠ (0 : Int)) := hc58
          refine pw_ld E (pc' := 16) (st' := [pw_i 0]) rfl (fun _ => rfl) ?_
          refine pw_zret E rfl (by omega) ?_
          exact ⟨I, E0, ⟨_, rfl, by omega, by omega, by omega⟩⟩
  · have hb59 : x4 = 0 := by omega
    refine pw_if E (pc' := 15) rfl (by decide) (by omega) (by omega) ?_ ?_
    · intro hc60
      have hc60 : x4 = (0 : Int) := hc60
      refine pw_ld E (pc' := 16) (st' := [pw_i 0]) rfl (fun _ => rfl) ?_
      refine pw_zret E rfl (by omega) ?_
      exact ⟨I, E0, ⟨_, rfl, by omega, by omega, by omega⟩⟩
    · intro hc61
      have hc61 : ¬ (x4 = (0 : Int)) := hc61
      exfalso; omega
set_option maxHeartbeats 4000000 in
theorem cm_126_t {X : List (Nat × List Value)} {d : Nat} {h : pm_H} (hd : 4 ≤ d) (I : pw_I h) (k : Int) (hk1 : (-2147483648) ≤ k) (hk2 : k ≤ 2147483647) (mo : Int) (hmo1 : (-2147483648) ≤ mo) (hmo2 : mo ≤ 2147483647) (wh : Int) (hwh1 : (-2147483648) ≤ wh) (hwh2 : wh ≤ 2147483647) (hf : Int) (hhf1 : (-2147483648) ≤ hf) (hhf2 : hf ≤ 2147483647) : pw X d h 126 0 [some (.ref 16), some (pw_i k), some (pw_i mo), some (pw_i wh), some (pw_i hf)] [] (fun h' v => pw_I h' ∧ pw_E [13] h h' ∧ ∃ a : Int, v = .inl (some (pw_i a)) ∧ 0 ≤ a ∧ a ≤ 1 ∧ ((a = 1 ∧ 0 ≤ k ∧ k ≤ 23 ∧ pw_g h 2 k.toNat = 1 ∧ 0 ≤ mo ∧ mo ≤ 11 ∧ 0 ≤ wh ∧ wh ≤ 99 ∧ 0 ≤ hf ∧ hf ≤ 99) ∨ (a = 0 ∧ ¬ (0 ≤ k ∧ k ≤ 23 ∧ pw_g h 2 k.toNat = 1 ∧ 0 ≤ mo ∧ mo ≤ 11 ∧ 0 ≤ wh ∧ wh ≤ 99 ∧ 0 ≤ hf ∧ hf ≤ 99)))) := by
  have E : pm_ent 126 = some (5, 5, 11, 1, pmc_126) := rfl
  have E0 : pw_E [13] h h := pw_E.rf _ _
  refine pw_ld E (pc' := 1) (st' := [.ref 16]) rfl (fun _ => rfl) ?_
  refine pw_ld E (pc' := 2) (st' := [pw_i k, .ref 16]) rfl (fun _ => rfl) ?_
  obtain ⟨f1l, f1h, -⟩ := pw_obj (c := 0) I rfl
  refine pw_call (m' := 124) (As := [.ref 16, pw_i k]) (rest := []) (ls'' := [some (.ref 16), some (pw_i k)]) (by omega) E rfl (fun _ => pw_iV rfl rfl rfl rfl (pw_cellI f1h rfl)) (rfl : pm_ent 124 = some (2, 2, 11, 1, pmc_124)) rfl rfl (cm_124_t (by omega) I (k) (by omega) (by omega)) ?_
  rintro u3 v2 ⟨rfl, x4, rfl, hx4a, hx4b, hx4r⟩
  refine ⟨_, rfl, ?_⟩
  show pw X d h 126 5 [some (.ref 16), some (pw_i k), some (pw_i mo), some (pw_i wh), some (pw_i hf)] [pw_i x4] _
  have hx4r : (x4 = 1 ∧ 0 ≤ k ∧ k ≤ 23 ∧ pw_g h 2 k.toNat = 1) ∨ (x4 = 0 ∧ ¬ (0 ≤ k ∧ k ≤ 23 ∧ pw_g h 2 k.toNat = 1)) := hx4r
  rcases (by omega : x4 = 1 ∨ x4 = 0) with hb5 | hb5
  · have hb5 : x4 = 1 := by omega
    refine pw_if E (pc' := 36) rfl (by decide) (by omega) (by omega) ?_ ?_
    · intro hc6
      have hc6 : x4 = (0 : Int) := hc6
      exfalso; omega
    · intro hc7
      have hc7 : ¬ (x4 = (0 : Int)) := hc7
      refine pw_ld E (pc' := 9) (st' := [pw_i mo]) rfl (fun _ => rfl) ?_
      refine pw_call (m' := 125) (As := [pw_i mo]) (rest := []) (ls'' := [some (pw_i mo)]) (by omega) E rfl (fun _ => pw_iS rfl rfl rfl) (rfl : pm_ent 125 = some (1, 1, 11, 1, pmc_125)) rfl rfl (cm_125 (by omega) I (mo) (by omega) (by omega)) ?_
      rintro u9 v8 ⟨rfl, x10, rfl, hx10a, hx10b, hx10r⟩
      refine ⟨_, rfl, ?_⟩
      show pw X d h 126 12 [some (.ref 16), some (pw_i k), some (pw_i mo), some (pw_i wh), some (pw_i hf)] [pw_i x10] _
      have hx10r : (x10 = 1 ∧ 0 ≤ mo ∧ mo ≤ 11) ∨ (x10 = 0 ∧ ¬ (0 ≤ mo ∧ mo ≤ 11)) := hx10r
      rcases (by omega : x10 = 1 ∨ x10 = 0) with hb11 | hb11
      · have hb11 : x10 = 1 := by omega
        refine pw_if E (pc' := 36) rfl (by decide) (by omega) (by omega) ?_ ?_
        · intro hc12
          have hc12 : x10 = (0 : Int) := hc12
          exfalso; omega
        · intro hc13
          have hc13 : ¬ (x10 = (0 : Int)) := hc13
          refine pw_ld E (pc' := 16) (st' := [pw_i wh]) rfl (fun _ => rfl) ?_
          refine pw_ld E (pc' := 17) (st' := [pw_i 0, pw_i wh]) rfl (fun _ => rfl) ?_
          refine pw_bip E (pc' := 19) rfl rfl (by decide) ?_
          refine pw_call (m' := 121) (As := [pw_i wh, pw_i 0, pw_i 99]) (rest := []) (ls'' := [some (pw_i wh), some (pw_i 0), some (pw_i 99)]) (by omega) E rfl (fun _ => pw_iS rfl rfl rfl) (rfl : pm_ent 121 = some (3, 3, 11, 1, pmc_121)) rfl rfl (cm_121 (by omega) I (wh) (by omega) (by omega) (0) (by omega) (by omega) (99) (by omega) (by omega)) ?_
          rintro u15 v14 ⟨rfl, x16, rfl, hx16a, hx16b, hx16r⟩
          refine ⟨_, rfl, ?_⟩
          show pw X d h 126 22 [some (.ref 16), some (pw_i k), some (pw_i mo), some (pw_i wh), some (pw_i hf)] [pw_i x16] _
          have hx16r : (x16 = 1 ∧ 0 ≤ wh ∧ wh ≤ 99) ∨ (x16 = 0 ∧ ¬ (0 ≤ wh ∧ wh ≤ 99)) := hx16r
          rcases (by omega : x16 = 1 ∨ x16 = 0) with hb17 | hb17
          · have hb17 : x16 = 1 := by omega
            refine pw_if E (pc' := 36) rfl (by decide) (by omega) (by omega) ?_ ?_
            · intro hc18
              have hc18 : x16 = (0 : Int) := hc18
              exfalso; omega
            · intro hc19
              have hc19 : ¬ (x16 = (0 : Int)) := hc19
              refine pw_ld E (pc' := 27) (st' := [pw_i hf]) rfl (fun _ => rfl) ?_
              refine pw_ld E (pc' := 28) (st' := [pw_i 0, pw_i hf]) rfl (fun _ => rfl) ?_
              refine pw_bip E (pc' := 30) rfl rfl (by decide) ?_
              refine pw_call (m' := 121) (As := [pw_i hf, pw_i 0, pw_i 99]) (rest := []) (ls'' := [some (pw_i hf), some (pw_i 0), some (pw_i 99)]) (by omega) E rfl (fun _ => pw_iS rfl rfl rfl) (rfl : pm_ent 121 = some (3, 3, 11, 1, pmc_121)) rfl rfl (cm_121 (by omega) I (hf) (by omega) (by omega) (0) (by omega) (by omega) (99) (by omega) (by omega)) ?_
              rintro u21 v20 ⟨rfl, x22, rfl, hx22a, hx22b, hx22r⟩
              refine ⟨_, rfl, ?_⟩
              show pw X d h 126 33 [some (.ref 16), some (pw_i k), some (pw_i mo), some (pw_i wh), some (pw_i hf)] [pw_i x22] _
              have hx22r : (x22 = 1 ∧ 0 ≤ hf ∧ hf ≤ 99) ∨ (x22 = 0 ∧ ¬ (0 ≤ hf ∧ hf ≤ 99)) := hx22r
              rcases (by omega : x22 = 1 ∨ x22 = 0) with hb23 | hb23
              · have hb23 : x22 = 1 := by omega
                refine pw_if E (pc' := 38) rfl (by decide) (by omega) (by omega) ?_ ?_
                · intro hc24
                  have hc24 : x22 ≠ (0 : Int) := hc24
                  refine pw_ld E (pc' := 39) (st' := [.ref 16]) rfl (fun _ => rfl) ?_
                  refine pw_getR (b := 28) I E (c := 0) (k := 3) (pc' := 42) rfl rfl rfl rfl rfl rfl rfl ?_
                  refine pw_ld E (pc' := 43) (st' := [pw_i k, .ref 28]) rfl (fun _ => rfl) ?_
                  refine pw_ld E (pc' := 44) (st' := [pw_i mo, pw_i k, .ref 28]) rfl (fun _ => rfl) ?_
                  refine pw_ld E (pc' := 45) (st' := [pw_i wh, pw_i mo, pw_i k, .ref 28]) rfl (fun _ => rfl) ?_
                  refine pw_ld E (pc' := 47) (st' := [pw_i hf, pw_i wh, pw_i mo, pw_i k, .ref 28]) rfl (fun _ => rfl) ?_
                  obtain ⟨f25l, f25h, -⟩ := pw_obj (c := 12) I rfl
                  refine pw_call (m' := 18) (As := [.ref 28, pw_i k, pw_i mo, pw_i wh, pw_i hf]) (rest := []) (ls'' := [some (.ref 28), some (pw_i k), some (pw_i mo), some (pw_i wh), some (pw_i hf)]) (by omega) E rfl (fun _ => pw_iV rfl rfl rfl rfl (pw_cellI f25h rfl)) (rfl : pm_ent 18 = some (5, 5, 2, 4, pmc_18)) rfl rfl (cm_18 (by omega) I 12 (by unfold pw_Lg; omega) (k) (by omega) (by omega) (mo) (by omega) (by omega) (wh) (by omega) (by omega) (hf) (by omega) (by omega)) ?_
                  rintro h26 v27 ⟨h26I, h26E, rfl⟩
                  refine ⟨_, rfl, ?_⟩
                  have h26F := E0.tr (h26E.wk (W' := [13]) (by first | rfl | simp))
                  show pw X d h26 126 50 [some (.ref 16), some (pw_i k), some (pw_i mo), some (pw_i wh), some (pw_i hf)] [] _
                  refine pw_ld E (pc' := 51) (st' := [pw_i 1]) rfl (fun _ => rfl) ?_
                  refine pw_zret E rfl (by omega) ?_
                  exact ⟨h26I, h26F, ⟨_, rfl, by omega, by omega, by omega⟩⟩
                · intro hc28
                  have hc28 : ¬ (x22 ≠ (0 : Int)) := hc28
                  exfalso; omega
              · have hb29 : x22 = 0 := by omega
                refine pw_if E (pc' := 38) rfl (by decide) (by omega) (by omega) ?_ ?_
                · intro hc30
                  have hc30 : x22 ≠ (0 : Int) := hc30
                  exfalso; omega
                · intro hc31
                  have hc31 : ¬ (x22 ≠ (0 : Int)) := hc31
                  refine pw_ld E (pc' := 37) (st' := [pw_i 0]) rfl (fun _ => rfl) ?_
                  refine pw_zret E rfl (by omega) ?_
                  exact ⟨I, E0, ⟨_, rfl, by omega, by omega, by omega⟩⟩
          · have hb32 : x16 = 0 := by omega
            refine pw_if E (pc' := 36) rfl (by decide) (by omega) (by omega) ?_ ?_
            · intro hc33
              have hc33 : x16 = (0 : Int) := hc33
              refine pw_ld E (pc' := 37) (st' := [pw_i 0]) rfl (fun _ => rfl) ?_
              refine pw_zret E rfl (by omega) ?_
              exact ⟨I, E0, ⟨_, rfl, by omega, by omega, by omega⟩⟩
            · intro hc34
              have hc34 : ¬ (x16 = (0 : Int)) := hc34
              exfalso; omega
      · have hb35 : x10 = 0 := by omega
        refine pw_if E (pc' := 36) rfl (by decide) (by omega) (by omega) ?_ ?_
        · intro hc36
          have hc36 : x10 = (0 : Int) := hc36
          refine pw_ld E (pc' := 37) (st' := [pw_i 0]) rfl (fun _ => rfl) ?_
          refine pw_zret E rfl (by omega) ?_
          exact ⟨I, E0, ⟨_, rfl, by omega, by omega, by omega⟩⟩
        · intro hc37
          have hc37 : ¬ (x10 = (0 : Int)) := hc37
          exfalso; omega
  · have hb38 : x4 = 0 := by omega
    refine pw_if E (pc' := 36) rfl (by decide) (by omega) (by omega) ?_ ?_
    · intro hc39
      have hc39 : x4 = (0 : Int) := hc39
      refine pw_ld E (pc' := 37) (st' := [pw_i 0]) rfl (fun _ => rfl) ?_
      refine pw_zret E rfl (by omega) ?_
      exact ⟨I, E0, ⟨_, rfl, by omega, by omega, by omega⟩⟩
    · intro hc40
      have hc40 : ¬ (x4 = (0 : Int)) := hc40
      exfalso; omega
set_option maxHeartbeats 4000000 in
theorem cm_160_t {X : List (Nat × List Value)} {d : Nat} {h : pm_H} (hd : 4 ≤ d) (I : pw_I h) (k : Int) (hk1 : (-2147483648) ≤ k) (hk2 : k ≤ 2147483647) (mo : Int) (hmo1 : (-2147483648) ≤ mo) (hmo2 : mo ≤ 2147483647) (hr : Int) (hhr1 : (-2147483648) ≤ hr) (hhr2 : hr ≤ 2147483647) (tk : Int) (htk1 : (-2147483648) ≤ tk) (htk2 : tk ≤ 2147483647) : pw X d h 160 0 [some (.ref 16), some (pw_i k), some (pw_i mo), some (pw_i hr), some (pw_i tk)] [] (fun h' v => pw_I h' ∧ pw_E [14, 15] h h' ∧ ∃ a : Int, v = .inl (some (pw_i a)) ∧ 0 ≤ a ∧ a ≤ 1 ∧ ((a = 1 ∧ 0 ≤ k ∧ k ≤ 23 ∧ pw_g h 2 k.toNat = 1 ∧ 0 ≤ mo ∧ mo ≤ 11 ∧ 0 ≤ hr ∧ hr ≤ 999 ∧ 0 ≤ tk ∧ tk ≤ 99999) ∨ (a = 0 ∧ ¬ (0 ≤ k ∧ k ≤ 23 ∧ pw_g h 2 k.toNat = 1 ∧ 0 ≤ mo ∧ mo ≤ 11 ∧ 0 ≤ hr ∧ hr ≤ 999 ∧ 0 ≤ tk ∧ tk ≤ 99999)))) := by
  have E : pm_ent 160 = some (5, 5, 11, 1, pmc_160) := rfl
  have E0 : pw_E [14, 15] h h := pw_E.rf _ _
  refine pw_ld E (pc' := 1) (st' := [.ref 16]) rfl (fun _ => rfl) ?_
  refine pw_ld E (pc' := 2) (st' := [pw_i k, .ref 16]) rfl (fun _ => rfl) ?_
  obtain ⟨f1l, f1h, -⟩ := pw_obj (c := 0) I rfl
  refine pw_call (m' := 124) (As := [.ref 16, pw_i k]) (rest := []) (ls'' := [some (.ref 16), some (pw_i k)]) (by omega) E rfl (fun _ => pw_iV rfl rfl rfl rfl (pw_cellI f1h rfl)) (rfl : pm_ent 124 = some (2, 2, 11, 1, pmc_124)) rfl rfl (cm_124_t (by omega) I (k) (by omega) (by omega)) ?_
  rintro u3 v2 ⟨rfl, x4, rfl, hx4a, hx4b, hx4r⟩
  refine ⟨_, rfl, ?_⟩
  show pw X d h 160 5 [some (.ref 16), some (pw_i k), some (pw_i mo), some (pw_i hr), some (pw_i tk)] [pw_i x4] _
  have hx4r : (x4 = 1 ∧ 0 ≤ k ∧ k ≤ 23 ∧ pw_g h 2 k.toNat = 1) ∨ (x4 = 0 ∧ ¬ (0 ≤ k ∧ k ≤ 23 ∧ pw_g h 2 k.toNat = 1)) := hx4r
  rcases (by omega : x4 = 1 ∨ x4 = 0) with hb5 | hb5
  · have hb5 : x4 = 1 := by omega
    refine pw_if E (pc' := 38) rfl (by decide) (by omega) (by omega) ?_ ?_
    · intro hc6
      have hc6 : x4 = (0 : Int) := hc6
      exfalso; omega
    · intro hc7
      have hc7 : ¬ (x4 = (0 : Int)) := hc7
      refine pw_ld E (pc' := 9) (st' := [pw_i mo]) rfl (fun _ => rfl) ?_
      refine pw_call (m' := 125) (As := [pw_i mo]) (rest := []) (ls'' := [some (pw_i mo)]) (by omega) E rfl (fun _ => pw_iS rfl rfl rfl) (rfl : pm_ent 125 = some (1, 1, 11, 1, pmc_125)) rfl rfl (cm_125 (by omega) I (mo) (by omega) (by omega)) ?_
      rintro u9 v8 ⟨rfl, x10, rfl, hx10a, hx10b, hx10r⟩
      refine ⟨_, rfl, ?_⟩
      show pw X d h 160 12 [some (.ref 16), some (pw_i k), some (pw_i mo), some (pw_i hr), some (pw_i tk)] [pw_i x10] _
      have hx10r : (x10 = 1 ∧ 0 ≤ mo ∧ mo ≤ 11) ∨ (x10 = 0 ∧ ¬ (0 ≤ mo ∧ mo ≤ 11)) := hx10r
      rcases (by omega : x10 = 1 ∨ x10 = 0) with hb11 | hb11
      · have hb11 : x10 = 1 := by omega
        refine pw_if E (pc' := 38) rfl (by decide) (by omega) (by omega) ?_ ?_
        · intro hc12
          have hc12 : x10 = (0 : Int) := hc12
          exfalso; omega
        · intro hc13
          have hc13 : ¬ (x10 = (0 : Int)) := hc13
          refine pw_ld E (pc' := 16) (st' := [pw_i hr]) rfl (fun _ => rfl) ?_
          refine pw_ld E (pc' := 17) (st' := [pw_i 0, pw_i hr]) rfl (fun _ => rfl) ?_
          refine pw_sip E (pc' := 20) rfl rfl (by decide) ?_
          refine pw_call (m' := 121) (As := [pw_i hr, pw_i 0, pw_i 999]) (rest := []) (ls'' := [some (pw_i hr), some (pw_i 0), some (pw_i 999)]) (by omega) E rfl (fun _ => pw_iS rfl rfl rfl) (rfl : pm_ent 121 = some (3, 3, 11, 1, pmc_121)) rfl rfl (cm_121 (by omega) I (hr) (by omega) (by omega) (0) (by omega) (by omega) (999) (by omega) (by omega)) ?_
          rintro u15 v14 ⟨rfl, x16, rfl, hx16a, hx16b, hx16r⟩
          refine ⟨_, rfl, ?_⟩
          show pw X d h 160 23 [some (.ref 16), some (pw_i k), some (pw_i mo), some (pw_i hr), some (pw_i tk)] [pw_i x16] _
          have hx16r : (x16 = 1 ∧ 0 ≤ hr ∧ hr ≤ 999) ∨ (x16 = 0 ∧ ¬ (0 ≤ hr ∧ hr ≤ 999)) := hx16r
          rcases (by omega : x16 = 1 ∨ x16 = 0) with hb17 | hb17
          · have hb17 : x16 = 1 := by omega
            refine pw_if E (pc' := 38) rfl (by decide) (by omega) (by omega) ?_ ?_
            · intro hc18
              have hc18 : x16 = (0 : Int) := hc18
              exfalso; omega
            · intro hc19
              have hc19 : ¬ (x16 = (0 : Int)) := hc19
              refine pw_ld E (pc' := 28) (st' := [pw_i tk]) rfl (fun _ => rfl) ?_
              refine pw_ld E (pc' := 29) (st' := [pw_i 0, pw_i tk]) rfl (fun _ => rfl) ?_
              refine pw_ldcw (a := 99999) E (pc' := 32) rfl rfl rfl (by decide) ?_
              refine pw_call (m' := 121) (As := [pw_i tk, pw_i 0, pw_i 99999]) (rest := []) (ls'' := [some (pw_i tk), some (pw_i 0), some (pw_i 99999)]) (by omega) E rfl (fun _ => pw_iS rfl rfl rfl) (rfl : pm_ent 121 = some (3, 3, 11, 1, pmc_121)) rfl rfl (cm_121 (by omega) I (tk) (by omega) (by omega) (0) (by omega) (by omega) (99999) (by omega) (by omega)) ?_
              rintro u21 v20 ⟨rfl, x22, rfl, hx22a, hx22b, hx22r⟩
              refine ⟨_, rfl, ?_⟩
              show pw X d h 160 35 [some (.ref 16), some (pw_i k), some (pw_i mo), some (pw_i hr), some (pw_i tk)] [pw_i x22] _
              have hx22r : (x22 = 1 ∧ 0 ≤ tk ∧ tk ≤ 99999) ∨ (x22 = 0 ∧ ¬ (0 ≤ tk ∧ tk ≤ 99999)) := hx22r
              rcases (by omega : x22 = 1 ∨ x22 = 0) with hb23 | hb23
              · have hb23 : x22 = 1 := by omega
                refine pw_if E (pc' := 40) rfl (by decide) (by omega) (by omega) ?_ ?_
                · intro hc24
                  have hc24 : x22 ≠ (0 : Int) := hc24
                  refine pw_ld E (pc' := 41) (st' := [.ref 16]) rfl (fun _ => rfl) ?_
                  refine pw_getR (b := 30) I E (c := 0) (k := 4) (pc' := 44) rfl rfl rfl rfl rfl rfl rfl ?_
                  refine pw_ld E (pc' := 45) (st' := [pw_i k, .ref 30]) rfl (fun _ => rfl) ?_
                  refine pw_bip E (pc' := 47) rfl rfl (by decide) ?_
                  refine pw_mul E (pc' := 48) rfl rfl ?_
                  refine pw_ld E (pc' := 49) (st' := [pw_i mo, pw_i (k * 12), .ref 30]) rfl (fun _ => rfl) ?_
                  refine pw_add E (pc' := 50) rfl rfl ?_
                  refine pw_ld E (pc' := 51) (st' := [pw_i hr, pw_i ((k * 12) + mo), .ref 30]) rfl (fun _ => rfl) ?_
                  refine pw_ast0 I E (c := 14) (pc' := 52) rfl rfl rfl (by decide) rfl (by decide) (by omega) (by omega) rfl (by omega) (by omega) (by omega) (by omega) rfl ?_
                  intro h25I h25E
                  generalize h25w : pw_w h 14 (((k * 12) + mo).toNat) (pw_i hr) = h25 at h25I h25E ⊢
                  have h25F := E0.tr (h25E.wk (W' := [14, 15]) (by first | rfl | simp))
                  refine pw_ld E (pc' := 53) (st' := [.ref 16]) rfl (fun _ => rfl) ?_
                  refine pw_getR (b := 31) h25I E (c := 0) (k := 5) (pc' := 56) rfl rfl rfl rfl rfl rfl rfl ?_
                  refine pw_ld E (pc' := 57) (st' := [pw_i k, .ref 31]) rfl (fun _ => rfl) ?_
                  refine pw_bip E (pc' := 59) rfl rfl (by decide) ?_
                  refine pw_mul E (pc' := 60) rfl rfl ?_
                  refine pw_ld E (pc' := 61) (st' := [pw_i mo, pw_i (k * 12), .ref 31]) rfl (fun _ => rfl) ?_
                  refine pw_add E (pc' := 62) rfl rfl ?_
                  refine pw_ld E (pc' := 64) (st' := [pw_i tk, pw_i ((k * 12) + mo), .ref 31]) rfl (fun _ => rfl) ?_
                  refine pw_ast0 h25I E (c := 15) (pc' := 65) rfl rfl rfl (by decide) rfl (by decide) (by omega) (by omega) rfl (by omega) (by omega) (by omega) (by omega) rfl ?_
                  intro h26I h26E
                  generalize h26w : pw_w h25 15 (((k * 12) + mo).toNat) (pw_i tk) = h26 at h26I h26E ⊢
                  have h26F := h25F.tr (h26E.wk (W' := [14, 15]) (by first | rfl | simp))
                  refine pw_ld E (pc' := 66) (st' := [pw_i 1]) rfl (fun _ => rfl) ?_
                  refine pw_zret E rfl (by omega) ?_
                  exact ⟨h26I, h26F, ⟨_, rfl, by omega, by omega, by omega⟩⟩
                · intro hc27
                  have hc27 : ¬ (x22 ≠ (0 : Int)) := hc27
                  exfalso; omega
              · have hb28 : x22 = 0 := by omega
                refine pw_if E (pc' := 40) rfl (by decide) (by omega) (by omega) ?_ ?_
                · intro hc29
                  have hc29 : x22 ≠ (0 : Int) := hc29
                  exfalso; omega
                · intro hc30
                  have hc30 : ¬ (x22 ≠ (0 : Int)) := hc30
                  refine pw_ld E (pc' := 39) (st' := [pw_i 0]) rfl (fun _ => rfl) ?_
                  refine pw_zret E rfl (by omega) ?_
                  exact ⟨I, E0, ⟨_, rfl, by omega, by omega, by omega⟩⟩
          · have hb31 : x16 = 0 := by omega
            refine pw_if E (pc' := 38) rfl (by decide) (by omega) (by omega) ?_ ?_
            · intro hc32
              have hc32 : x16 = (0 : Int) := hc32
              refine pw_ld E (pc' := 39) (st' := [pw_i 0]) rfl (fun _ => rfl) ?_
              refine pw_zret E rfl (by omega) ?_
              exact ⟨I, E0, ⟨_, rfl, by omega, by omega, by omega⟩⟩
            · intro hc33
              have hc33 : ¬ (x16 = (0 : Int)) := hc33
              exfalso; omega
      · have hb34 : x10 = 0 := by omega
        refine pw_if E (pc' := 38) rfl (by decide) (by omega) (by omega) ?_ ?_
        · intro hc35
          have hc35 : x10 = (0 : Int) := hc35
          refine pw_ld E (pc' := 39) (st' := [pw_i 0]) rfl (fun _ => rfl) ?_
          refine pw_zret E rfl (by omega) ?_
          exact ⟨I, E0, ⟨_, rfl, by omega, by omega, by omega⟩⟩
        · intro hc36
          have hc36 : ¬ (x10 = (0 : Int)) := hc36
          exfalso; omega
  · have hb37 : x4 = 0 := by omega
    refine pw_if E (pc' := 38) rfl (by decide) (by omega) (by omega) ?_ ?_
    · intro hc38
      have hc38 : x4 = (0 : Int) := hc38
      refine pw_ld E (pc' := 39) (st' := [pw_i 0]) rfl (fun _ => rfl) ?_
      refine pw_zret E rfl (by omega) ?_
      exact ⟨I, E0, ⟨_, rfl, by omega, by omega, by omega⟩⟩
    · intro hc39
      have hc39 : ¬ (x4 = (0 : Int)) := hc39
      exfalso; omega
set_option maxHeartbeats 4000000 in
theorem cm_203_t {X : List (Nat × List Value)} {d : Nat} {h : pm_H} (hd : 3 ≤ d) (I : pw_I h) (k : Int) (hk1 : (-2147483648) ≤ k) (hk2 : k ≤ 2147483647) (mo : Int) (hmo1 : (-2147483648) ≤ mo) (hmo2 : mo ≤ 2147483647) (wh : Int) (hwh1 : (-2147483648) ≤ wh) (hwh2 : wh ≤ 2147483647) (hf : Int) (hhf1 : (-2147483648) ≤ hf) (hhf2 : hf ≤ 2147483647) : pw X d h 203 0 [some (.ref 141), some (pw_i k), some (pw_i mo), some (pw_i wh), some (pw_i hf), none, none, none] [] (fun h' v => pw_I h' ∧ pw_E [125, 138, 139, 140] h h' ∧ ∃ a : Int, v = .inl (some (pw_i a)) ∧ 0 ≤ a ∧ a ≤ 1 ∧ ((a = 1 ∧ 0 ≤ k ∧ k ≤ 23 ∧ pw_g h 131 k.toNat = 1 ∧ 0 ≤ mo ∧ mo ≤ 11 ∧ ((wh = -1 ∧ hf = -1) ∨ (0 ≤ wh ∧ wh ≤ 99 ∧ hf = -1) ∨ (0 ≤ wh ∧ wh ≤ 99 ∧ 0 ≤ hf ∧ hf ≤ 99))) ∨ (a = 0 ∧ ¬ (0 ≤ k ∧ k ≤ 23 ∧ pw_g h 131 k.toNat = 1 ∧ 0 ≤ mo ∧ mo ≤ 11 ∧ ((wh = -1 ∧ hf = -1) ∨ (0 ≤ wh ∧ wh ≤ 99 ∧ hf = -1) ∨ (0 ≤ wh ∧ wh ≤ 99 ∧ 0 ≤ hf ∧ hf ≤ 99)))))) := by
  have E : pm_ent 203 = some (5, 8, 12, 1, pmc_203) := rfl
  have E0 : pw_E [125, 138, 139, 140] h h := pw_E.rf _ _
  refine pw_ld E (pc' := 1) (st' := [.ref 141]) rfl (fun _ => rfl) ?_
  refine pw_ld E (pc' := 2) (st' := [pw_i 0, .ref 141]) rfl (fun _ => rfl) ?_
  refine pw_putI I E (c := 125) (k := 0) (pc' := 5) rfl rfl rfl rfl (by omega) (by omega) (by omega) (by omega) rfl rfl ?_
  intro h1I h1E
  generalize h1w : pw_w h 125 0 (pw_i 0) = h1 at h1I h1E ⊢
  have h1F := E0.tr (h1E.wk (W' := [125, 138, 139, 140]) (by first | rfl | simp))
  have ht1 : pw_g h1 131 k.toNat = pw_g h 131 k.toNat := by rw [← h1w]; exact pw_g_ne (by omega)
  refine pw_ld E (pc' := 6) (st' := [.ref 141]) rfl (fun _ => rfl) ?_
  refine pw_ld E (pc' := 7) (st' := [pw_i k, .ref 141]) rfl (fun _ => rfl) ?_
  obtain ⟨f2l, f2h, -⟩ := pw_obj (c := 125) h1I rfl
  refine pw_call (m' := 204) (As := [.ref 141, pw_i k]) (rest := []) (ls'' := [some (.ref 141), some (pw_i k)]) (by omega) E rfl (fun _ => pw_iV rfl rfl rfl rfl (pw_cellI f2h rfl)) (rfl : pm_ent 204 = some (2, 2, 12, 1, pmc_204)) rfl rfl (cm_204_t (by omega) h1I (k) (by omega) (by omega)) ?_
  rintro u4 v3 ⟨rfl, x5, rfl, hx5a, hx5b, hx5r⟩
  refine ⟨_, rfl, ?_⟩
  show pw X d h1 203 10 [some (.ref 141), some (pw_i k), some (pw_i mo), some (pw_i wh), some (pw_i hf), none, none, none] [pw_i x5] _
  have hx5r : (x5 = 1 ∧ 0 ≤ k ∧ k ≤ 23 ∧ pw_g h1 131 k.toNat = 1) ∨ (x5 = 0 ∧ ¬ (0 ≤ k ∧ k ≤ 23 ∧ pw_g h1 131 k.toNat = 1)) := hx5r
  rcases (by omega : x5 = 1 ∨ x5 = 0) with hb6 | hb6
  · have hb6 : x5 = 1 := by omega
    refine pw_if E (pc' := 20) rfl (by decide) (by omega) (by omega) ?_ ?_
    · intro hc7
      have hc7 : x5 = (0 : Int) := hc7
      exfalso; omega
    · intro hc8
      have hc8 : ¬ (x5 = (0 : Int)) := hc8
      refine pw_ld E (pc' := 14) (st' := [pw_i mo]) rfl (fun _ => rfl) ?_
      refine pw_call (m' := 205) (As := [pw_i mo]) (rest := []) (ls'' := [some (pw_i mo)]) (by omega) E rfl (fun _ => pw_iS rfl rfl rfl) (rfl : pm_ent 205 = some (1, 1, 12, 1, pmc_205)) rfl rfl (cm_205 (by omega) h1I (mo) (by omega) (by omega)) ?_
      rintro u10 v9 ⟨rfl, x11, rfl, hx11a, hx11b, hx11r⟩
      refine ⟨_, rfl, ?_⟩
      show pw X d h1 203 17 [some (.ref 141), some (pw_i k), some (pw_i mo), some (pw_i wh), some (pw_i hf), none, none, none] [pw_i x11] _
      have hx11r : (x11 = 1 ∧ 0 ≤ mo ∧ mo ≤ 11) ∨ (x11 = 0 ∧ ¬ (0 ≤ mo ∧ mo ≤ 11)) := hx11r
      rcases (by omega : x11 = 1 ∨ x11 = 0) with hb12 | hb12
      · have hb12 : x11 = 1 := by omega
        refine pw_if E (pc' := 22) rfl (by decide) (by omega) (by omega) ?_ ?_
        · intro hc13
          have hc13 : x11 ≠ (0 : Int) := hc13
          refine pw_ld E (pc' := 23) (st' := [pw_i wh]) rfl (fun _ => rfl) ?_
          refine pw_ld E (pc' := 24) (st' := [pw_i ((-1)), pw_i wh]) rfl (fun _ => rfl) ?_
          refine pw_if2 E (pc' := 37) rfl (by decide) (by omega) (by omega) (by decide) (by decide) ?_ ?_
          · intro hc14
            have hc14 : wh ≠ ((-1) : Int) := hc14
            refine pw_ld E (pc' := 38) (st' := [pw_i 0]) rfl (fun _ => rfl) ?_
            refine pw_ist E (pc' := 40) (ls' := [some (.ref 141), some (pw_i k), some (pw_i mo), some (pw_i wh), some (pw_i hf), some (pw_i 0), none, none]) rfl rfl rfl rfl ?_
            refine pw_ld E (pc' := 41) (st' := [pw_i wh]) rfl (fun _ => rfl) ?_
            refine pw_ld E (pc' := 42) (st' := [pw_i 0, pw_i wh]) rfl (fun _ => rfl) ?_
            refine pw_bip E (pc' := 44) rfl rfl (by decide) ?_
            refine pw_call (m' := 202) (As := [pw_i wh, pw_i 0, pw_i 99]) (rest := []) (ls'' := [some (pw_i wh), some (pw_i 0), some (pw_i 99)]) (by omega) E rfl (fun _ => pw_iS rfl rfl rfl) (rfl : pm_ent 202 = some (3, 3, 12, 1, pmc_202)) rfl rfl (cm_202 (by omega) h1I (wh) (by omega) (by omega) (0) (by omega) (by omega) (99) (by omega) (by omega)) ?_
            rintro u16 v15 ⟨rfl, x17, rfl, hx17a, hx17b, hx17r⟩
            refine ⟨_, rfl, ?_⟩
            show pw X d h1 203 47 [some (.ref 141), some (pw_i k), some (pw_i mo), some (pw_i wh), some (pw_i hf), some (pw_i 0), none, none] [pw_i x17] _
            have hx17r : (x17 = 1 ∧ 0 ≤ wh ∧ wh ≤ 99) ∨ (x17 = 0 ∧ ¬ (0 ≤ wh ∧ wh ≤ 99)) := hx17r
            rcases (by omega : x17 = 1 ∨ x17 = 0) with hb18 | hb18
            · have hb18 : x17 = 1 := by omega
              refine pw_if E (pc' := 60) rfl (by decide) (by omega) (by omega) ?_ ?_
              · intro hc19
                have hc19 : x17 = (0 : Int) := hc19
                exfalso; omega
              · intro hc20
                have hc20 : ¬ (x17 = (0 : Int)) := hc20
                refine pw_ld E (pc' := 52) (st' := [pw_i hf]) rfl (fun _ => rfl) ?_
                refine pw_ld E (pc' := 53) (st' := [pw_i ((-1)), pw_i hf]) rfl (fun _ => rfl) ?_
                refine pw_if2 E (pc' := 60) rfl (by decide) (by omega) (by omega) (by decide) (by decide) ?_ ?_
                · intro hc21
                  have hc21 : hf ≠ ((-1) : Int) := hc21
                  refine pw_ld E (pc' := 61) (st' := [pw_i 0]) rfl (fun _ => rfl) ?_
                  refine pw_ist E (pc' := 63) (ls' := [some (.ref 141), some (pw_i k), some (pw_i mo), some (pw_i wh), some (pw_i hf), some (pw_i 0), some (pw_i 0), none]) rfl rfl rfl rfl ?_
                  refine pw_ld E (pc' := 65) (st' := [pw_i 0]) rfl (fun _ => rfl) ?_
                  refine pw_if E (pc' := 96) rfl (by decide) (by decide) (by decide) ?_ ?_
                  · intro hc22
                    have hc22 : (0 : Int) ≠ (0 : Int) := hc22
                    exfalso; omega
                  · intro hc23
                    have hc23 : ¬ ((0 : Int) ≠ (0 : Int)) := hc23
                    refine pw_ld E (pc' := 70) (st' := [pw_i 0]) rfl (fun _ => rfl) ?_
                    refine pw_if E (pc' := 96) rfl (by decide) (by decide) (by decide) ?_ ?_
                    · intro hc24
                      have hc24 : (0 : Int) ≠ (0 : Int) := hc24
                      exfalso; omega
                    · intro hc25
                      have hc25 : ¬ ((0 : Int) ≠ (0 : Int)) := hc25
                      refine pw_ld E (pc' := 74) (st' := [pw_i wh]) rfl (fun _ => rfl) ?_
                      refine pw_ld E (pc' := 75) (st' := [pw_i 0, pw_i wh]) rfl (fun _ => rfl) ?_
                      refine pw_bip E (pc' := 77) rfl rfl (by decide) ?_
                      refine pw_call (m' := 202) (As := [pw_i wh, pw_i 0, pw_i 99]) (rest := []) (ls'' := [some (pw_i wh), some (pw_i 0), some (pw_i 99)]) (by omega) E rfl (fun _ => pw_iS rfl rfl rfl) (rfl : pm_ent 202 = some (3, 3, 12, 1, pmc_202)) rfl rfl (cm_202 (by omega) h1I (wh) (by omega) (by omega) (0) (by omega) (by omega) (99) (by omega) (by omega)) ?_
                      rintro u27 v26 ⟨rfl, x28, rfl, hx28a, hx28b, hx28r⟩
                      refine ⟨_, rfl, ?_⟩
                      show pw X d h1 203 80 [some (.ref 141), some (pw_i k), some (pw_i mo), some (pw_i wh), some (pw_i hf), some (pw_i 0), some (pw_i 0), none] [pw_i x28] _
                      have hx28r : (x28 = 1 ∧ 0 ≤ wh ∧ wh ≤ 99) ∨ (x28 = 0 ∧ ¬ (0 ≤ wh ∧ wh ≤ 99)) := hx28r
                      rcases (by omega : x28 = 1 ∨ x28 = 0) with hb29 | hb29
                      · have hb29 : x28 = 1 := by omega
                        refine pw_if E (pc' := 94) rfl (by decide) (by omega) (by omega) ?_ ?_
                        · intro hc30
                          have hc30 : x28 = (0 : Int) := hc30
                          exfalso; omega
                        · intro hc31
                          have hc31 : ¬ (x28 = (0 : Int)) := hc31
                          refine pw_ld E (pc' := 85) (st' := [pw_i hf]) rfl (fun _ => rfl) ?_
                          refine pw_ld E (pc' := 86) (st' := [pw_i 0, pw_i hf]) rfl (fun _ => rfl) ?_
                          refine pw_bip E (pc' := 88) rfl rfl (by decide) ?_
                          refine pw_call (m' := 202) (As := [pw_i hf, pw_i 0, pw_i 99]) (rest := []) (ls'' := [some (pw_i hf), some (pw_i 0), some (pw_i 99)]) (by omega) E rfl (fun _ => pw_iS rfl rfl rfl) (rfl : pm_ent 202 = some (3, 3, 12, 1, pmc_202)) rfl rfl (cm_202 (by omega) h1I (hf) (by omega) (by omega) (0) (by omega) (by omega) (99) (by omega) (by omega)) ?_
                          rintro u33 v32 ⟨rfl, x34, rfl, hx34a, hx34b, hx34r⟩
                          refine ⟨_, rfl, ?_⟩
                          show pw X d h1 203 91 [some (.ref 141), some (pw_i k), some (pw_i mo), some (pw_i wh), some (pw_i hf), some (pw_i 0), some (pw_i 0), none] [pw_i x34] _
                          have hx34r : (x34 = 1 ∧ 0 ≤ hf ∧ hf ≤ 99) ∨ (x34 = 0 ∧ ¬ (0 ≤ hf ∧ hf ≤ 99)) := hx34r
                          rcases (by omega : x34 = 1 ∨ x34 = 0) with hb35 | hb35
                          · have hb35 : x34 = 1 := by omega
                            refine pw_if E (pc' := 96) rfl (by decide) (by omega) (by omega) ?_ ?_
                            · intro hc36
                              have hc36 : x34 ≠ (0 : Int) := hc36
                              refine pw_bip E (pc' := 98) rfl rfl (by decide) ?_
                              refine pw_ld E (pc' := 99) (st' := [pw_i k, pw_i 12]) rfl (fun _ => rfl) ?_
                              refine pw_mul E (pc' := 100) rfl rfl ?_
                              refine pw_ld E (pc' := 101) (st' := [pw_i mo, pw_i (12 * k)]) rfl (fun _ => rfl) ?_
                              refine pw_add E (pc' := 102) rfl rfl ?_
                              refine pw_ist E (pc' := 104) (ls' := [some (.ref 141), some (pw_i k), some (pw_i mo), some (pw_i wh), some (pw_i hf), some (pw_i 0), some (pw_i 0), some (pw_i ((12 * k) + mo))]) rfl rfl rfl rfl ?_
                              refine pw_ld E (pc' := 105) (st' := [.ref 141]) rfl (fun _ => rfl) ?_
                              refine pw_getR (b := 154) h1I E (c := 125) (k := 18) (pc' := 108) rfl rfl rfl rfl rfl rfl rfl ?_
                              refine pw_ld E (pc' := 110) (st' := [pw_i ((12 * k) + mo), .ref 154]) rfl (fun _ => rfl) ?_
                              refine pw_ld E (pc' := 112) (st' := [pw_i 0, pw_i ((12 * k) + mo), .ref 154]) rfl (fun _ => rfl) ?_
                              refine pw_if E (pc' := 119) rfl (by decide) (by decide) (by decide) ?_ ?_
                              · intro hc37
                                have hc37 : (0 : Int) = (0 : Int) := hc37
                                refine pw_ld E (pc' := 121) (st' := [pw_i 0, pw_i ((12 * k) + mo), .ref 154]) rfl (fun _ => rfl) ?_
                                refine pw_if E (pc' := 128) rfl (by decide) (by decide) (by decide) ?_ ?_
                                · intro hc38
                                  have hc38 : (0 : Int) = (0 : Int) := hc38
                                  refine pw_ld E (pc' := 129) (st' := [pw_i 1, pw_i ((12 * k) + mo), .ref 154]) rfl (fun _ => rfl) ?_
                                  refine pw_ast0 h1I E (c := 138) (pc' := 130) rfl rfl rfl (by decide) rfl (by decide) (by omega) (by omega) rfl (by omega) (by omega) (by omega) (by omega) rfl ?_
                                  intro h39I h39E
                                  generalize h39w : pw_w h1 138 (((12 * k) + mo).toNat) (pw_i 1) = h39 at h39I h39E ⊢
                                  have h39F := h1F.tr (h39E.wk (W' := [125, 138, 139, 140]) (by first | rfl | simp))
                                  refine pw_ld E (pc' := 131) (st' := [.ref 141]) rfl (fun _ => rfl) ?_
                                  refine pw_getR (b := 155) h39I E (c := 125) (k := 19) (pc' := 134) rfl rfl rfl rfl rfl rfl rfl ?_
                                  refine pw_ld E (pc' := 136) (st' := [pw_i ((12 * k) + mo), .ref 155]) rfl (fun _ => rfl) ?_
                                  refine pw_ld E (pc' := 138) (st' := [pw_i 0, pw_i ((12 * k) + mo), .ref 155]) rfl (fun _ => rfl) ?_
                                  refine pw_if E (pc' := 146) rfl (by decide) (by decide) (by decide) ?_ ?_
                                  · intro hc40
                                    have hc40 : (0 : Int) ≠ (0 : Int) := hc40
                                    exfalso; omega
                                  · intro hc41
                                    have hc41 : ¬ ((0 : Int) ≠ (0 : Int)) := hc41
                                    refine pw_ld E (pc' := 143) (st' := [pw_i 0, pw_i ((12 * k) + mo), .ref 155]) rfl (fun _ => rfl) ?_
                                    refine pw_if E (pc' := 150) rfl (by decide) (by decide) (by decide) ?_ ?_
                                    · intro hc42
                                      have hc42 : (0 : Int) = (0 : Int) := hc42
                                      refine pw_ld E (pc' := 151) (st' := [pw_i wh, pw_i ((12 * k) + mo), .ref 155]) rfl (fun _ => rfl) ?_
                                      refine pw_ast0 h39I E (c := 139) (pc' := 152) rfl rfl rfl (by decide) rfl (by decide) (by omega) (by omega) rfl (by omega) (by omega) (by omega) (by omega) rfl ?_
                                      intro h43I h43E
                                      generalize h43w : pw_w h39 139 (((12 * k) + mo).toNat) (pw_i wh) = h43 at h43I h43E ⊢
                                      have h43F := h39F.tr (h43E.wk (W' := [125, 138, 139, 140]) (by first | rfl | simp))
                                      refine pw_ld E (pc' := 153) (st' := [.ref 141]) rfl (fun _ => rfl) ?_
                                      refine pw_getR (b := 156) h43I E (c := 125) (k := 20) (pc' := 156) rfl rfl rfl rfl rfl rfl rfl ?_
                                      refine pw_ld E (pc' := 158) (st' := [pw_i ((12 * k) + mo), .ref 156]) rfl (fun _ => rfl) ?_
                                      refine pw_ld E (pc' := 160) (st' := [pw_i 0, pw_i ((12 * k) + mo), .ref 156]) rfl (fun _ => rfl) ?_
                                      refine pw_if E (pc' := 168) rfl (by decide) (by decide) (by decide) ?_ ?_
                                      · intro hc44
                                        have hc44 : (0 : Int) ≠ (0 : Int) := hc44
                                        exfalso; omega
                                      · intro hc45
                                        have hc45 : ¬ ((0 : Int) ≠ (0 : Int)) := hc45
                                        refine pw_ld E (pc' := 165) (st' := [pw_i 0, pw_i ((12 * k) + mo), .ref 156]) rfl (fun _ => rfl) ?_
                                        refine pw_if E (pc' := 172) rfl (by decide) (by decide) (by decide) ?_ ?_
                                        · intro hc46
                                          have hc46 : (0 : Int) = (0 : Int) := hc46
                                          refine pw_ld E (pc' := 174) (st' := [pw_i hf, pw_i ((12 * k) + mo), .ref 156]) rfl (fun _ => rfl) ?_
                                          refine pw_ast0 h43I E (c := 140) (pc' := 175) rfl rfl rfl (by decide) rfl (by decide) (by omega) (by omega) rfl (by omega) (by omega) (by omega) (by omega) rfl ?_
                                          intro h47I h47E
                                          generalize h47w : pw_w h43 140 (((12 * k) + mo).toNat) (pw_i hf) = h47 at h47I h47E ⊢
                                          have h47F := h43F.tr (h47E.wk (W' := [125, 138, 139, 140]) (by first | rfl | simp))
                                          refine pw_ld E (pc' := 176) (st' := [pw_i 1]) rfl (fun _ => rfl) ?_
                                          refine pw_zret E rfl (by omega) ?_
                                          exact ⟨h47I, h47F, ⟨_, rfl, by omega, by omega, by omega⟩⟩
                                        · intro hc48
                                          have hc48 : ¬ ((0 : Int) = (0 : Int)) := hc48
                                          exfalso; omega
                                    · intro hc49
                                      have hc49 : ¬ ((0 : Int) = (0 : Int)) := hc49
                                      exfalso; omega
                                · intro hc50
                                  have hc50 : ¬ ((0 : Int) = (0 : Int)) := hc50
                                  exfalso; omega
                              · intro hc51
                                have hc51 : ¬ ((0 : Int) = (0 : Int)) := hc51
                                exfalso; omega
                            · intro hc52
                              have hc52 : ¬ (x34 ≠ (0 : Int)) := hc52
                              exfalso; omega
                          · have hb53 : x34 = 0 := by omega
                            refine pw_if E (pc' := 96) rfl (by decide) (by omega) (by omega) ?_ ?_
                            · intro hc54
                              have hc54 : x34 ≠ (0 : Int) := hc54
                              exfalso; omega
                            · intro hc55
                              have hc55 : ¬ (x34 ≠ (0 : Int)) := hc55
                              refine pw_ld E (pc' := 95) (st' := [pw_i 0]) rfl (fun _ => rfl) ?_
                              refine pw_zret E rfl (by omega) ?_
                              exact ⟨h1I, h1F, ⟨_, rfl, by omega, by omega, by omega⟩⟩
                      · have hb56 : x28 = 0 := by omega
                        refine pw_if E (pc' := 94) rfl (by decide) (by omega) (by omega) ?_ ?_
                        · intro hc57
                          have hc57 : x28 = (0 : Int) := hc57
                          refine pw_ld E (pc' := 95) (st' := [pw_i 0]) rfl (fun _ => rfl) ?_
                          refine pw_zret E rfl (by omega) ?_
                          exact ⟨h1I, h1F, ⟨_, rfl, by omega, by omega, by omega⟩⟩
                        · intro hc58
                          have hc58 : ¬ (x28 = (0 : Int)) := hc58
                          exfalso; omega
                · intro hc59
                  have hc59 : ¬ (hf ≠ ((-1) : Int)) := hc59
                  refine pw_ld E (pc' := 57) (st' := [pw_i 1]) rfl (fun _ => rfl) ?_
                  refine pw_goto E (pc' := 61) rfl (by decide) ?_
                  refine pw_ist E (pc' := 63) (ls' := [some (.ref 141), some (pw_i k), some (pw_i mo), some (pw_i wh), some (pw_i hf), some (pw_i 0), some (pw_i 1), none]) rfl rfl rfl rfl ?_
                  refine pw_ld E (pc' := 65) (st' := [pw_i 0]) rfl (fun _ => rfl) ?_
                  refine pw_if E (pc' := 96) rfl (by decide) (by decide) (by decide) ?_ ?_
                  · intro hc60
                    have hc60 : (0 : Int) ≠ (0 : Int) := hc60
                    exfalso; omega
                  · intro hc61
                    have hc61 : ¬ ((0 : Int) ≠ (0 : Int)) := hc61
                    refine pw_ld E (pc' := 70) (st' := [pw_i 1]) rfl (fun _ => rfl) ?_
                    refine pw_if E (pc' := 96) rfl (by decide) (by decide) (by decide) ?_ ?_
                    · intro hc62
                      have hc62 : (1 : Int) ≠ (0 : Int) := hc62
                      refine pw_bip E (pc' := 98) rfl rfl (by decide) ?_
                      refine pw_ld E (pc' := 99) (st' := [pw_i k, pw_i 12]) rfl (fun _ => rfl) ?_
                      refine pw_mul E (pc' := 100) rfl rfl ?_
                      refine pw_ld E (pc' := 101) (st' := [pw_i mo, pw_i (12 * k)]) rfl (fun _ => rfl) ?_
                      refine pw_add E (pc' := 102) rfl rfl ?_
                      refine pw_ist E (pc' := 104) (ls' := [some (.ref 141), some (pw_i k), some (pw_i mo), some (pw_i wh), some (pw_i hf), some (pw_i 0), some (pw_i 1), some (pw_i ((12 * k) + mo))]) rfl rfl rfl rfl ?_
                      refine pw_ld E (pc' := 105) (st' := [.ref 141]) rfl (fun _ => rfl) ?_
                      refine pw_getR (b := 154) h1I E (c := 125) (k := 18) (pc' := 108) rfl rfl rfl rfl rfl rfl rfl ?_
                      refine pw_ld E (pc' := 110) (st' := [pw_i ((12 * k) + mo), .ref 154]) rfl (fun _ => rfl) ?_
                      refine pw_ld E (pc' := 112) (st' := [pw_i 0, pw_i ((12 * k) + mo), .ref 154]) rfl (fun _ => rfl) ?_
                      refine pw_if E (pc' := 119) rfl (by decide) (by decide) (by decide) ?_ ?_
                      · intro hc63
                        have hc63 : (0 : Int) = (0 : Int) := hc63
                        refine pw_ld E (pc' := 121) (st' := [pw_i 1, pw_i ((12 * k) + mo), .ref 154]) rfl (fun _ => rfl) ?_
                        refine pw_if E (pc' := 128) rfl (by decide) (by decide) (by decide) ?_ ?_
                        · intro hc64
                          have hc64 : (1 : Int) = (0 : Int) := hc64
                          exfalso; omega
                        · intro hc65
                          have hc65 : ¬ ((1 : Int) = (0 : Int)) := hc65
                          refine pw_ld E (pc' := 125) (st' := [pw_i 0, pw_i ((12 * k) + mo), .ref 154]) rfl (fun _ => rfl) ?_
                          refine pw_goto E (pc' := 129) rfl (by decide) ?_
                          refine pw_ast0 h1I E (c := 138) (pc' := 130) rfl rfl rfl (by decide) rfl (by decide) (by omega) (by omega) rfl (by omega) (by omega) (by omega) (by omega) rfl ?_
                          intro h66I h66E
                          generalize h66w : pw_w h1 138 (((12 * k) + mo).toNat) (pw_i 0) = h66 at h66I h66E ⊢
                          have h66F := h1F.tr (h66E.wk (W' := [125, 138, 139, 140]) (by first | rfl | simp))
                          refine pw_ld E (pc' := 131) (st' := [.ref 141]) rfl (fun _ => rfl) ?_
                          refine pw_getR (b := 155) h66I E (c := 125) (k := 19) (pc' := 134) rfl rfl rfl rfl rfl rfl rfl ?_
                          refine pw_ld E (pc' := 136) (st' := [pw_i ((12 * k) + mo), .ref 155]) rfl (fun _ => rfl) ?_
                          refine pw_ld E (pc' := 138) (st' := [pw_i 0, pw_i ((12 * k) + mo), .ref 155]) rfl (fun _ => rfl) ?_
                          refine pw_if E (pc' := 146) rfl (by decide) (by decide) (by decide) ?_ ?_
                          · intro hc67
                            have hc67 : (0 : Int) ≠ (0 : Int) := hc67
                            exfalso; omega
                          · intro hc68
                            have hc68 : ¬ ((0 : Int) ≠ (0 : Int)) := hc68
                            refine pw_ld E (pc' := 143) (st' := [pw_i 1, pw_i ((12 * k) + mo), .ref 155]) rfl (fun _ => rfl) ?_
                            refine pw_if E (pc' := 150) rfl (by decide) (by decide) (by decide) ?_ ?_
                            · intro hc69
                              have hc69 : (1 : Int) = (0 : Int) := hc69
                              exfalso; omega
                            · intro hc70
                              have hc70 : ¬ ((1 : Int) = (0 : Int)) := hc70
                              refine pw_ld E (pc' := 147) (st' := [pw_i 0, pw_i ((12 * k) + mo), .ref 155]) rfl (fun _ => rfl) ?_
                              refine pw_goto E (pc' := 151) rfl (by decide) ?_
                              refine pw_ast0 h66I E (c := 139) (pc' := 152) rfl rfl rfl (by decide) rfl (by decide) (by omega) (by omega) rfl (by omega) (by omega) (by omega) (by omega) rfl ?_
                              intro h71I h71E
                              generalize h71w : pw_w h66 139 (((12 * k) + mo).toNat) (pw_i 0) = h71 at h71I h71E ⊢
                              have h71F := h66F.tr (h71E.wk (W' := [125, 138, 139, 140]) (by first | rfl | simp))
                              refine pw_ld E (pc' := 153) (st' := [.ref 141]) rfl (fun _ => rfl) ?_
                              refine pw_getR (b := 156) h71I E (c := 125) (k := 20) (pc' := 156) rfl rfl rfl rfl rfl rfl rfl ?_
                              refine pw_ld E (pc' := 158) (st' := [pw_i ((12 * k) + mo), .ref 156]) rfl (fun _ => rfl) ?_
                              refine pw_ld E (pc' := 160) (st' := [pw_i 0, pw_i ((12 * k) + mo), .ref 156]) rfl (fun _ => rfl) ?_
                              refine pw_if E (pc' := 168) rfl (by decide) (by decide) (by decide) ?_ ?_
                              · intro hc72
                                have hc72 : (0 : Int) ≠ (0 : Int) := hc72
                                exfalso; omega
                              · intro hc73
                                have hc73 : ¬ ((0 : Int) ≠ (0 : Int)) := hc73
                                refine pw_ld E (pc' := 165) (st' := [pw_i 1, pw_i ((12 * k) + mo), .ref 156]) rfl (fun _ => rfl) ?_
                                refine pw_if E (pc' := 172) rfl (by decide) (by decide) (by decide) ?_ ?_
                                · intro hc74
                                  have hc74 : (1 : Int) = (0 : Int) := hc74
                                  exfalso; omega
                                · intro hc75
                                  have hc75 : ¬ ((1 : Int) = (0 : Int)) := hc75
                                  refine pw_ld E (pc' := 169) (st' := [pw_i 0, pw_i ((12 * k) + mo), .ref 156]) rfl (fun _ => rfl) ?_
                                  refine pw_goto E (pc' := 174) rfl (by decide) ?_
                                  refine pw_ast0 h71I E (c := 140) (pc' := 175) rfl rfl rfl (by decide) rfl (by decide) (by omega) (by omega) rfl (by omega) (by omega) (by omega) (by omega) rfl ?_
                                  intro h76I h76E
                                  generalize h76w : pw_w h71 140 (((12 * k) + mo).toNat) (pw_i 0) = h76 at h76I h76E ⊢
                                  have h76F := h71F.tr (h76E.wk (W' := [125, 138, 139, 140]) (by first | rfl | simp))
                                  refine pw_ld E (pc' := 176) (st' := [pw_i 1]) rfl (fun _ => rfl) ?_
                                  refine pw_zret E rfl (by omega) ?_
                                  exact ⟨h76I, h76F, ⟨_, rfl, by omega, by omega, by omega⟩⟩
                      · intro hc77
                        have hc77 : ¬ ((0 : Int) = (0 : Int)) := hc77
                        exfalso; omega
                    · intro hc78
                      have hc78 : ¬ ((1 : Int) ≠ (0 : Int)) := hc78
                      exfalso; omega
            · have hb79 : x17 = 0 := by omega
              refine pw_if E (pc' := 60) rfl (by decide) (by omega) (by omega) ?_ ?_
              · intro hc80
                have hc80 : x17 = (0 : Int) := hc80
                refine pw_ld E (pc' := 61) (st' := [pw_i 0]) rfl (fun _ => rfl) ?_
                refine pw_ist E (pc' := 63) (ls' := [some (.ref 141), some (pw_i k), some (pw_i mo), some (pw_i wh), some (pw_i hf), some (pw_i 0), some (pw_i 0), none]) rfl rfl rfl rfl ?_
                refine pw_ld E (pc' := 65) (st' := [pw_i 0]) rfl (fun _ => rfl) ?_
                refine pw_if E (pc' := 96) rfl (by decide) (by decide) (by decide) ?_ ?_
                · intro hc81
                  have hc81 : (0 : Int) ≠ (0 : Int) := hc81
                  exfalso; omega
                · intro hc82
                  have hc82 : ¬ ((0 : Int) ≠ (0 : Int)) := hc82
                  refine pw_ld E (pc' := 70) (st' := [pw_i 0]) rfl (fun _ => rfl) ?_
                  refine pw_if E (pc' := 96) rfl (by decide) (by decide) (by decide) ?_ ?_
                  · intro hc83
                    have hc83 : (0 : Int) ≠ (0 : Int) := hc83
                    exfalso; omega
                  · intro hc84
                    have hc84 : ¬ ((0 : Int) ≠ (0 : Int)) := hc84
                    refine pw_ld E (pc' := 74) (st' := [pw_i wh]) rfl (fun _ => rfl) ?_
                    refine pw_ld E (pc' := 75) (st' := [pw_i 0, pw_i wh]) rfl (fun _ => rfl) ?_
                    refine pw_bip E (pc' := 77) rfl rfl (by decide) ?_
                    refine pw_call (m' := 202) (As := [pw_i wh, pw_i 0, pw_i 99]) (rest := []) (ls'' := [some (pw_i wh), some (pw_i 0), some (pw_i 99)]) (by omega) E rfl (fun _ => pw_iS rfl rfl rfl) (rfl : pm_ent 202 = some (3, 3, 12, 1, pmc_202)) rfl rfl (cm_202 (by omega) h1I (wh) (by omega) (by omega) (0) (by omega) (by omega) (99) (by omega) (by omega)) ?_
                    rintro u86 v85 ⟨rfl, x87, rfl, hx87a, hx87b, hx87r⟩
                    refine ⟨_, rfl, ?_⟩
                    show pw X d h1 203 80 [some (.ref 141), some (pw_i k), some (pw_i mo), some (pw_i wh), some (pw_i hf), some (pw_i 0), some (pw_i 0), none] [pw_i x87] _
                    have hx87r : (x87 = 1 ∧ 0 ≤ wh ∧ wh ≤ 99) ∨ (x87 = 0 ∧ ¬ (0 ≤ wh ∧ wh ≤ 99)) := hx87r
                    rcases (by omega : x87 = 1 ∨ x87 = 0) with hb88 | hb88
                    · have hb88 : x87 = 1 := by omega
                      refine pw_if E (pc' := 94) rfl (by decide) (by omega) (by omega) ?_ ?_
                      · intro hc89
                        have hc89 : x87 = (0 : Int) := hc89
                        exfalso; omega
                      · intro hc90
                        have hc90 : ¬ (x87 = (0 : Int)) := hc90
                        refine pw_ld E (pc' := 85) (st' := [pw_i hf]) rfl (fun _ => rfl) ?_
                        refine pw_ld E (pc' := 86) (st' := [pw_i 0, pw_i hf]) rfl (fun _ => rfl) ?_
                        refine pw_bip E (pc' := 88) rfl rfl (by decide) ?_
                        refine pw_call (m' := 202) (As := [pw_i hf, pw_i 0, pw_i 99]) (rest := []) (ls'' := [some (pw_i hf), some (pw_i 0), some (pw_i 99)]) (by omega) E rfl (fun _ => pw_iS rfl rfl rfl) (rfl : pm_ent 202 = some (3, 3, 12, 1, pmc_202)) rfl rfl (cm_202 (by omega) h1I (hf) (by omega) (by omega) (0) (by omega) (by omega) (99) (by omega) (by omega)) ?_
                        rintro u92 v91 ⟨rfl, x93, rfl, hx93a, hx93b, hx93r⟩
                        refine ⟨_, rfl, ?_⟩
                        show pw X d h1 203 91 [some (.ref 141), some (pw_i k), some (pw_i mo), some (pw_i wh), some (pw_i hf), some (pw_i 0), some (pw_i 0), none] [pw_i x93] _
                        have hx93r : (x93 = 1 ∧ 0 ≤ hf ∧ hf ≤ 99) ∨ (x93 = 0 ∧ ¬ (0 ≤ hf ∧ hf ≤ 99)) := hx93r
                        rcases (by omega : x93 = 1 ∨ x93 = 0) with hb94 | hb94
                        · have hb94 : x93 = 1 := by omega
                          refine pw_if E (pc' := 96) rfl (by decide) (by omega) (by omega) ?_ ?_
                          · intro hc95
                            have hc95 : x93 ≠ (0 : Int) := hc95
                            refine pw_bip E (pc' := 98) rfl rfl (by decide) ?_
                            refine pw_ld E (pc' := 99) (st' := [pw_i k, pw_i 12]) rfl (fun _ => rfl) ?_
                            refine pw_mul E (pc' := 100) rfl rfl ?_
                            refine pw_ld E (pc' := 101) (st' := [pw_i mo, pw_i (12 * k)]) rfl (fun _ => rfl) ?_
                            refine pw_add E (pc' := 102) rfl rfl ?_
                            refine pw_ist E (pc' := 104) (ls' := [some (.ref 141), some (pw_i k), some (pw_i mo), some (pw_i wh), some (pw_i hf), some (pw_i 0), some (pw_i 0), some (pw_i ((12 * k) + mo))]) rfl rfl rfl rfl ?_
                            refine pw_ld E (pc' := 105) (st' := [.ref 141]) rfl (fun _ => rfl) ?_
                            refine pw_getR (b := 154) h1I E (c := 125) (k := 18) (pc' := 108) rfl rfl rfl rfl rfl rfl rfl ?_
                            refine pw_ld E (pc' := 110) (st' := [pw_i ((12 * k) + mo), .ref 154]) rfl (fun _ => rfl) ?_
                            refine pw_ld E (pc' := 112) (st' := [pw_i 0, pw_i ((12 * k) + mo), .ref 154]) rfl (fun _ => rfl) ?_
                            refine pw_if E (pc' := 119) rfl (by decide) (by decide) (by decide) ?_ ?_
                            · intro hc96
                              have hc96 : (0 : Int) = (0 : Int) := hc96
                              refine pw_ld E (pc' := 121) (st' := [pw_i 0, pw_i ((12 * k) + mo), .ref 154]) rfl (fun _ => rfl) ?_
                              refine pw_if E (pc' := 128) rfl (by decide) (by decide) (by decide) ?_ ?_
                              · intro hc97
                                have hc97 : (0 : Int) = (0 : Int) := hc97
                                refine pw_ld E (pc' := 129) (st' := [pw_i 1, pw_i ((12 * k) + mo), .ref 154]) rfl (fun _ => rfl) ?_
                                refine pw_ast0 h1I E (c := 138) (pc' := 130) rfl rfl rfl (by decide) rfl (by decide) (by omega) (by omega) rfl (by omega) (by omega) (by omega) (by omega) rfl ?_
                                intro h98I h98E
                                generalize h98w : pw_w h1 138 (((12 * k) + mo).toNat) (pw_i 1) = h98 at h98I h98E ⊢
                                have h98F := h1F.tr (h98E.wk (W' := [125, 138, 139, 140]) (by first | rfl | simp))
                                refine pw_ld E (pc' := 131) (st' := [.ref 141]) rfl (fun _ => rfl) ?_
                                refine pw_getR (b := 155) h98I E (c := 125) (k := 19) (pc' := 134) rfl rfl rfl rfl rfl rfl rfl ?_
                                refine pw_ld E (pc' := 136) (st' := [pw_i ((12 * k) + mo), .ref 155]) rfl (fun _ => rfl) ?_
                                refine pw_ld E (pc' := 138) (st' := [pw_i 0, pw_i ((12 * k) + mo), .ref 155]) rfl (fun _ => rfl) ?_
                                refine pw_if E (pc' := 146) rfl (by decide) (by decide) (by decide) ?_ ?_
                                · intro hc99
                                  have hc99 : (0 : Int) ≠ (0 : Int) := hc99
                                  exfalso; omega
                                · intro hc100
                                  have hc100 : ¬ ((0 : Int) ≠ (0 : Int)) := hc100
                                  refine pw_ld E (pc' := 143) (st' := [pw_i 0, pw_i ((12 * k) + mo), .ref 155]) rfl (fun _ => rfl) ?_
                                  refine pw_if E (pc' := 150) rfl (by decide) (by decide) (by decide) ?_ ?_
                                  · intro hc101
                                    have hc101 : (0 : Int) = (0 : Int) := hc101
                                    refine pw_ld E (pc' := 151) (st' := [pw_i wh, pw_i ((12 * k) + mo), .ref 155]) rfl (fun _ => rfl) ?_
                                    refine pw_ast0 h98I E (c := 139) (pc' := 152) rfl rfl rfl (by decide) rfl (by decide) (by omega) (by omega) rfl (by omega) (by omega) (by omega) (by omega) rfl ?_
                                    intro h102I h102E
                                    generalize h102w : pw_w h98 139 (((12 * k) + mo).toNat) (pw_i wh) = h102 at h102I h102E ⊢
                                    have h102F := h98F.tr (h102E.wk (W' := [125, 138, 139, 140]) (by first | rfl | simp))
                                    refine pw_ld E (pc' := 153) (st' := [.ref 141]) rfl (fun _ => rfl) ?_
                                    refine pw_getR (b := 156) h102I E (c := 125) (k := 20) (pc' := 156) rfl rfl rfl rfl rfl rfl rfl ?_
                                    refine pw_ld E (pc' := 158) (st' := [pw_i ((12 * k) + mo), .ref 156]) rfl (fun _ => rfl) ?_
                                    refine pw_ld E (pc' := 160) (st' := [pw_i 0, pw_i ((12 * k) + mo), .ref 156]) rfl (fun _ => rfl) ?_
                                    refine pw_if E (pc' := 168) rfl (by decide) (by decide) (by decide) ?_ ?_
                                    · intro hc103
                                      have hc103 : (0 : Int) ≠ (0 : Int) := hc103
                                      exfalso; omega
                                    · intro hc104
                                      have hc104 : ¬ ((0 : Int) ≠ (0 : Int)) := hc104
                                      refine pw_ld E (pc' := 165) (st' := [pw_i 0, pw_i ((12 * k) + mo), .ref 156]) rfl (fun _ => rfl) ?_
                                      refine pw_if E (pc' := 172) rfl (by decide) (by decide) (by decide) ?_ ?_
                                      · intro hc105
                                        have hc105 : (0 : Int) = (0 : Int) := hc105
                                        refine pw_ld E (pc' := 174) (st' := [pw_i hf, pw_i ((12 * k) + mo), .ref 156]) rfl (fun _ => rfl) ?_
                                        refine pw_ast0 h102I E (c := 140) (pc' := 175) rfl rfl rfl (by decide) rfl (by decide) (by omega) (by omega) rfl (by omega) (by omega) (by omega) (by omega) rfl ?_
                                        intro h106I h106E
                                        generalize h106w : pw_w h102 140 (((12 * k) + mo).toNat) (pw_i hf) = h106 at h106I h106E ⊢
                                        have h106F := h102F.tr (h106E.wk (W' := [125, 138, 139, 140]) (by first | rfl | simp))
                                        refine pw_ld E (pc' := 176) (st' := [pw_i 1]) rfl (fun _ => rfl) ?_
                                        refine pw_zret E rfl (by omega) ?_
                                        exact ⟨h106I, h106F, ⟨_, rfl, by omega, by omega, by omega⟩⟩
                                      · intro hc107
                                        have hc107 : ¬ ((0 : Int) = (0 : Int)) := hc107
                                        exfalso; omega
                                  · intro hc108
                                    have hc108 : ¬ ((0 : Int) = (0 : Int)) := hc108
                                    exfalso; omega
                              · intro hc109
                                have hc109 : ¬ ((0 : Int) = (0 : Int)) := hc109
                                exfalso; omega
                            · intro hc110
                              have hc110 : ¬ ((0 : Int) = (0 : Int)) := hc110
                              exfalso; omega
                          · intro hc111
                            have hc111 : ¬ (x93 ≠ (0 : Int)) := hc111
                            exfalso; omega
                        · have hb112 : x93 = 0 := by omega
                          refine pw_if E (pc' := 96) rfl (by decide) (by omega) (by omega) ?_ ?_
                          · intro hc113
                            have hc113 : x93 ≠ (0 : Int) := hc113
                            exfalso; omega
                          · intro hc114
                            have hc114 : ¬ (x93 ≠ (0 : Int)) := hc114
                            refine pw_ld E (pc' := 95) (st' := [pw_i 0]) rfl (fun _ => rfl) ?_
                            refine pw_zret E rfl (by omega) ?_
                            exact ⟨h1I, h1F, ⟨_, rfl, by omega, by omega, by omega⟩⟩
                    · have hb115 : x87 = 0 := by omega
                      refine pw_if E (pc' := 94) rfl (by decide) (by omega) (by omega) ?_ ?_
                      · intro hc116
                        have hc116 : x87 = (0 : Int) := hc116
                        refine pw_ld E (pc' := 95) (st' := [pw_i 0]) rfl (fun _ => rfl) ?_
                        refine pw_zret E rfl (by omega) ?_
                        exact ⟨h1I, h1F, ⟨_, rfl, by omega, by omega, by omega⟩⟩
                      · intro hc117
                        have hc117 : ¬ (x87 = (0 : Int)) := hc117
                        exfalso; omega
              · intro hc118
                have hc118 : ¬ (x17 = (0 : Int)) := hc118
                exfalso; omega
          · intro hc119
            have hc119 : ¬ (wh ≠ ((-1) : Int)) := hc119
            refine pw_ld E (pc' := 29) (st' := [pw_i hf]) rfl (fun _ => rfl) ?_
            refine pw_ld E (pc' := 30) (st' := [pw_i ((-1)), pw_i hf]) rfl (fun _ => rfl) ?_
            refine pw_if2 E (pc' := 37) rfl (by decide) (by omega) (by omega) (by decide) (by decide) ?_ ?_
            · intro hc120
              have hc120 : hf ≠ ((-1) : Int) := hc120
              refine pw_ld E (pc' := 38) (st' := [pw_i 0]) rfl (fun _ => rfl) ?_
              refine pw_ist E (pc' := 40) (ls' := [some (.ref 141), some (pw_i k), some (pw_i mo), some (pw_i wh), some (pw_i hf), some (pw_i 0), none, none]) rfl rfl rfl rfl ?_
              refine pw_ld E (pc' := 41) (st' := [pw_i wh]) rfl (fun _ => rfl) ?_
              refine pw_ld E (pc' := 42) (st' := [pw_i 0, pw_i wh]) rfl (fun _ => rfl) ?_
              refine pw_bip E (pc' := 44) rfl rfl (by decide) ?_
              refine pw_call (m' := 202) (As := [pw_i wh, pw_i 0, pw_i 99]) (rest := []) (ls'' := [some (pw_i wh), some (pw_i 0), some (pw_i 99)]) (by omega) E rfl (fun _ => pw_iS rfl rfl rfl) (rfl : pm_ent 202 = some (3, 3, 12, 1, pmc_202)) rfl rfl (cm_202 (by omega) h1I (wh) (by omega) (by omega) (0) (by omega) (by omega) (99) (by omega) (by omega)) ?_
              rintro u122 v121 ⟨rfl, x123, rfl, hx123a, hx123b, hx123r⟩
              refine ⟨_, rfl, ?_⟩
              show pw X d h1 203 47 [some (.ref 141), some (pw_i k), some (pw_i mo), some (pw_i wh), some (pw_i hf), some (pw_i 0), none, none] [pw_i x123] _
              have hx123r : (x123 = 1 ∧ 0 ≤ wh ∧ wh ≤ 99) ∨ (x123 = 0 ∧ ¬ (0 ≤ wh ∧ wh ≤ 99)) := hx123r
              rcases (by omega : x123 = 1 ∨ x123 = 0) with hb124 | hb124
              · have hb124 : x123 = 1 := by omega
                refine pw_if E (pc' := 60) rfl (by decide) (by omega) (by omega) ?_ ?_
                · intro hc125
                  have hc125 : x123 = (0 : Int) := hc125
                  exfalso; omega
                · intro hc126
                  have hc126 : ¬ (x123 = (0 : Int)) := hc126
                  exfalso; omega
              · have hb127 : x123 = 0 := by omega
                refine pw_if E (pc' := 60) rfl (by decide) (by omega) (by omega) ?_ ?_
                · intro hc128
                  have hc128 : x123 = (0 : Int) := hc128
                  refine pw_ld E (pc' := 61) (st' := [pw_i 0]) rfl (fun _ => rfl) ?_
                  refine pw_ist E (pc' := 63) (ls' := [some (.ref 141), some (pw_i k), some (pw_i mo), some (pw_i wh), some (pw_i hf), some (pw_i 0), some (pw_i 0), none]) rfl rfl rfl rfl ?_
                  refine pw_ld E (pc' := 65) (st' := [pw_i 0]) rfl (fun _ => rfl) ?_
                  refine pw_if E (pc' := 96) rfl (by decide) (by decide) (by decide) ?_ ?_
                  · intro hc129
                    have hc129 : (0 : Int) ≠ (0 : Int) := hc129
                    exfalso; omega
                  · intro hc130
                    have hc130 : ¬ ((0 : Int) ≠ (0 : Int)) := hc130
                    refine pw_ld E (pc' := 70) (st' := [pw_i 0]) rfl (fun _ => rfl) ?_
                    refine pw_if E (pc' := 96) rfl (by decide) (by decide) (by decide) ?_ ?_
                    · intro hc131
                      have hc131 : (0 : Int) ≠ (0 : Int) := hc131
                      exfalso; omega
                    · intro hc132
                      have hc132 : ¬ ((0 : Int) ≠ (0 : Int)) := hc132
                      refine pw_ld E (pc' := 74) (st' := [pw_i wh]) rfl (fun _ => rfl) ?_
                      refine pw_ld E (pc' := 75) (st' := [pw_i 0, pw_i wh]) rfl (fun _ => rfl) ?_
                      refine pw_bip E (pc' := 77) rfl rfl (by decide) ?_
                      refine pw_call (m' := 202) (As := [pw_i wh, pw_i 0, pw_i 99]) (rest := []) (ls'' := [some (pw_i wh), some (pw_i 0), some (pw_i 99)]) (by omega) E rfl (fun _ => pw_iS rfl rfl rfl) (rfl : pm_ent 202 = some (3, 3, 12, 1, pmc_202)) rfl rfl (cm_202 (by omega) h1I (wh) (by omega) (by omega) (0) (by omega) (by omega) (99) (by omega) (by omega)) ?_
                      rintro u134 v133 ⟨rfl, x135, rfl, hx135a, hx135b, hx135r⟩
                      refine ⟨_, rfl, ?_⟩
                      show pw X d h1 203 80 [some (.ref 141), some (pw_i k), some (pw_i mo), some (pw_i wh), some (pw_i hf), some (pw_i 0), some (pw_i 0), none] [pw_i x135] _
                      have hx135r : (x135 = 1 ∧ 0 ≤ wh ∧ wh ≤ 99) ∨ (x135 = 0 ∧ ¬ (0 ≤ wh ∧ wh ≤ 99)) := hx135r
                      rcases (by omega : x135 = 1 ∨ x135 = 0) with hb136 | hb136
                      · have hb136 : x135 = 1 := by omega
                        refine pw_if E (pc' := 94) rfl (by decide) (by omega) (by omega) ?_ ?_
                        · intro hc137
                          have hc137 : x135 = (0 : Int) := hc137
                          exfalso; omega
                        · intro hc138
                          have hc138 : ¬ (x135 = (0 : Int)) := hc138
                          exfalso; omega
                      · have hb139 : x135 = 0 := by omega
                        refine pw_if E (pc' := 94) rfl (by decide) (by omega) (by omega) ?_ ?_
                        · intro hc140
                          have hc140 : x135 = (0 : Int) := hc140
                          refine pw_ld E (pc' := 95) (st' := [pw_i 0]) rfl (fun _ => rfl) ?_
                          refine pw_zret E rfl (by omega) ?_
                          exact ⟨h1I, h1F, ⟨_, rfl, by omega, by omega, by omega⟩⟩
                        · intro hc141
                          have hc141 : ¬ (x135 = (0 : Int)) := hc141
                          exfalso; omega
                · intro hc142
                  have hc142 : ¬ (x123 = (0 : Int)) := hc142
                  exfalso; omega
            · intro hc143
              have hc143 : ¬ (hf ≠ ((-1) : Int)) := hc143
              refine pw_ld E (pc' := 34) (st' := [pw_i 1]) rfl (fun _ => rfl) ?_
              refine pw_goto E (pc' := 38) rfl (by decide) ?_
              refine pw_ist E (pc' := 40) (ls' := [some (.ref 141), some (pw_i k), some (pw_i mo), some (pw_i wh), some (pw_i hf), some (pw_i 1), none, none]) rfl rfl rfl rfl ?_
              refine pw_ld E (pc' := 41) (st' := [pw_i wh]) rfl (fun _ => rfl) ?_
              refine pw_ld E (pc' := 42) (st' := [pw_i 0, pw_i wh]) rfl (fun _ => rfl) ?_
              refine pw_bip E (pc' := 44) rfl rfl (by decide) ?_
              refine pw_call (m' := 202) (As := [pw_i wh, pw_i 0, pw_i 99]) (rest := []) (ls'' := [some (pw_i wh), some (pw_i 0), some (pw_i 99)]) (by omega) E rfl (fun _ => pw_iS rfl rfl rfl) (rfl : pm_ent 202 = some (3, 3, 12, 1, pmc_202)) rfl rfl (cm_202 (by omega) h1I (wh) (by omega) (by omega) (0) (by omega) (by omega) (99) (by omega) (by omega)) ?_
              rintro u145 v144 ⟨rfl, x146, rfl, hx146a, hx146b, hx146r⟩
              refine ⟨_, rfl, ?_⟩
              show pw X d h1 203 47 [some (.ref 141), some (pw_i k), some (pw_i mo), some (pw_i wh), some (pw_i hf), some (pw_i 1), none, none] [pw_i x146] _
              have hx146r : (x146 = 1 ∧ 0 ≤ wh ∧ wh ≤ 99) ∨ (x146 = 0 ∧ ¬ (0 ≤ wh ∧ wh ≤ 99)) := hx146r
              rcases (by omega : x146 = 1 ∨ x146 = 0) with hb147 | hb147
              · have hb147 : x146 = 1 := by omega
                refine pw_if E (pc' := 60) rfl (by decide) (by omega) (by omega) ?_ ?_
                · intro hc148
                  have hc148 : x146 = (0 : Int) := hc148
                  exfalso; omega
                · intro hc149
                  have hc149 : ¬ (x146 = (0 : Int)) := hc149
                  exfalso; omega
              · have hb150 : x146 = 0 := by omega
                refine pw_if E (pc' := 60) rfl (by decide) (by omega) (by omega) ?_ ?_
                · intro hc151
                  have hc151 : x146 = (0 : Int) := hc151
                  refine pw_ld E (pc' := 61) (st' := [pw_i 0]) rfl (fun _ => rfl) ?_
                  refine pw_ist E (pc' := 63) (ls' := [some (.ref 141), some (pw_i k), some (pw_i mo), some (pw_i wh), some (pw_i hf), some (pw_i 1), some (pw_i 0), none]) rfl rfl rfl rfl ?_
                  refine pw_ld E (pc' := 65) (st' := [pw_i 1]) rfl (fun _ => rfl) ?_
                  refine pw_if E (pc' := 96) rfl (by decide) (by decide) (by decide) ?_ ?_
                  · intro hc152
                    have hc152 : (1 : Int) ≠ (0 : Int) := hc152
                    refine pw_bip E (pc' := 98) rfl rfl (by decide) ?_
                    refine pw_ld E (pc' := 99) (st' := [pw_i k, pw_i 12]) rfl (fun _ => rfl) ?_
                    refine pw_mul E (pc' := 100) rfl rfl ?_
                    refine pw_ld E (pc' := 101) (st' := [pw_i mo, pw_i (12 * k)]) rfl (fun _ => rfl) ?_
                    refine pw_add E (pc' := 102) rfl rfl ?_
                    refine pw_ist E (pc' := 104) (ls' := [some (.ref 141), some (pw_i k), some (pw_i mo), some (pw_i wh), some (pw_i hf), some (pw_i 1), some (pw_i 0), some (pw_i ((12 * k) + mo))]) rfl rfl rfl rfl ?_
                    refine pw_ld E (pc' := 105) (st' := [.ref 141]) rfl (fun _ => rfl) ?_
                    refine pw_getR (b := 154) h1I E (c := 125) (k := 18) (pc' := 108) rfl rfl rfl rfl rfl rfl rfl ?_
                    refine pw_ld E (pc' := 110) (st' := [pw_i ((12 * k) + mo), .ref 154]) rfl (fun _ => rfl) ?_
                    refine pw_ld E (pc' := 112) (st' := [pw_i 1, pw_i ((12 * k) + mo), .ref 154]) rfl (fun _ => rfl) ?_
                    refine pw_if E (pc' := 119) rfl (by decide) (by decide) (by decide) ?_ ?_
                    · intro hc153
                      have hc153 : (1 : Int) = (0 : Int) := hc153
                      exfalso; omega
                    · intro hc154
                      have hc154 : ¬ ((1 : Int) = (0 : Int)) := hc154
                      refine pw_ld E (pc' := 116) (st' := [pw_i 2, pw_i ((12 * k) + mo), .ref 154]) rfl (fun _ => rfl) ?_
                      refine pw_goto E (pc' := 129) rfl (by decide) ?_
                      refine pw_ast0 h1I E (c := 138) (pc' := 130) rfl rfl rfl (by decide) rfl (by decide) (by omega) (by omega) rfl (by omega) (by omega) (by omega) (by omega) rfl ?_
                      intro h155I h155E
                      generalize h155w : pw_w h1 138 (((12 * k) + mo).toNat) (pw_i 2) = h155 at h155I h155E ⊢
                      have h155F := h1F.tr (h155E.wk (W' := [125, 138, 139, 140]) (by first | rfl | simp))
                      refine pw_ld E (pc' := 131) (st' := [.ref 141]) rfl (fun _ => rfl) ?_
                      refine pw_getR (b := 155) h155I E (c := 125) (k := 19) (pc' := 134) rfl rfl rfl rfl rfl rfl rfl ?_
                      refine pw_ld E (pc' := 136) (st' := [pw_i ((12 * k) + mo), .ref 155]) rfl (fun _ => rfl) ?_
                      refine pw_ld E (pc' := 138) (st' := [pw_i 1, pw_i ((12 * k) + mo), .ref 155]) rfl (fun _ => rfl) ?_
                      refine pw_if E (pc' := 146) rfl (by decide) (by decide) (by decide) ?_ ?_
                      · intro hc156
                        have hc156 : (1 : Int) ≠ (0 : Int) := hc156
                        refine pw_ld E (pc' := 147) (st' := [pw_i 0, pw_i ((12 * k) + mo), .ref 155]) rfl (fun _ => rfl) ?_
                        refine pw_goto E (pc' := 151) rfl (by decide) ?_
                        refine pw_ast0 h155I E (c := 139) (pc' := 152) rfl rfl rfl (by decide) rfl (by decide) (by omega) (by omega) rfl (by omega) (by omega) (by omega) (by omega) rfl ?_
                        intro h157I h157E
                        generalize h157w : pw_w h155 139 (((12 * k) + mo).toNat) (pw_i 0) = h157 at h157I h157E ⊢
                        have h157F := h155F.tr (h157E.wk (W' := [125, 138, 139, 140]) (by first | rfl | simp))
                        refine pw_ld E (pc' := 153) (st' := [.ref 141]) rfl (fun _ => rfl) ?_
                        refine pw_getR (b := 156) h157I E (c := 125) (k := 20) (pc' := 156) rfl rfl rfl rfl rfl rfl rfl ?_
                        refine pw_ld E (pc' := 158) (st' := [pw_i ((12 * k) + mo), .ref 156]) rfl (fun _ => rfl) ?_
                        refine pw_ld E (pc' := 160) (st' := [pw_i 1, pw_i ((12 * k) + mo), .ref 156]) rfl (fun _ => rfl) ?_
                        refine pw_if E (pc' := 168) rfl (by decide) (by decide) (by decide) ?_ ?_
                        · intro hc158
                          have hc158 : (1 : Int) ≠ (0 : Int) := hc158
                          refine pw_ld E (pc' := 169) (st' := [pw_i 0, pw_i ((12 * k) + mo), .ref 156]) rfl (fun _ => rfl) ?_
                          refine pw_goto E (pc' := 174) rfl (by decide) ?_
                          refine pw_ast0 h157I E (c := 140) (pc' := 175) rfl rfl rfl (by decide) rfl (by decide) (by omega) (by omega) rfl (by omega) (by omega) (by omega) (by omega) rfl ?_
                          intro h159I h159E
                          generalize h159w : pw_w h157 140 (((12 * k) + mo).toNat) (pw_i 0) = h159 at h159I h159E ⊢
                          have h159F := h157F.tr (h159E.wk (W' := [125, 138, 139, 140]) (by first | rfl | simp))
                          refine pw_ld E (pc' := 176) (st' := [pw_i 1]) rfl (fun _ => rfl) ?_
                          refine pw_zret E rfl (by omega) ?_
                          exact ⟨h159I, h159F, ⟨_, rfl, by omega, by omega, by omega⟩⟩
                        · intro hc160
                          have hc160 : ¬ ((1 : Int) ≠ (0 : Int)) := hc160
                          exfalso; omega
                      · intro hc161
                        have hc161 : ¬ ((1 : Int) ≠ (0 : Int)) := hc161
                        exfalso; omega
                  · intro hc162
                    have hc162 : ¬ ((1 : Int) ≠ (0 : Int)) := hc162
                    exfalso; omega
                · intro hc163
                  have hc163 : ¬ (x146 = (0 : Int)) := hc163
                  exfalso; omega
        · intro hc164
          have hc164 : ¬ (x11 ≠ (0 : Int)) := hc164
          exfalso; omega
      · have hb165 : x11 = 0 := by omega
        refine pw_if E (pc' := 22) rfl (by decide) (by omega) (by omega) ?_ ?_
        · intro hc166
          have hc166 : x11 ≠ (0 : Int) := hc166
          exfalso; omega
        · intro hc167
          have hc167 : ¬ (x11 ≠ (0 : Int)) := hc167
          refine pw_ld E (pc' := 21) (st' := [pw_i 0]) rfl (fun _ => rfl) ?_
          refine pw_zret E rfl (by omega) ?_
          exact ⟨h1I, h1F, ⟨_, rfl, by omega, by omega, by omega⟩⟩
  · have hb168 : x5 = 0 := by omega
    refine pw_if E (pc' := 20) rfl (by decide) (by omega) (by omega) ?_ ?_
    · intro hc169
      have hc169 : x5 = (0 : Int) := hc169
      refine pw_ld E (pc' := 21) (st' := [pw_i 0]) rfl (fun _ => rfl) ?_
      refine pw_zret E rfl (by omega) ?_
      exact ⟨h1I, h1F, ⟨_, rfl, by omega, by omega, by omega⟩⟩
    · intro hc170
      have hc170 : ¬ (x5 = (0 : Int)) := hc170
      exfalso; omega
set_option maxHeartbeats 4000000 in
theorem cm_206_t {X : List (Nat × List Value)} {d : Nat} {h : pm_H} (hd : 3 ≤ d) (I : pw_I h) (k : Int) (hk1 : (-2147483648) ≤ k) (hk2 : k ≤ 2147483647) (mo : Int) (hmo1 : (-2147483648) ≤ mo) (hmo2 : mo ≤ 2147483647) (wh : Int) (hwh1 : (-2147483648) ≤ wh) (hwh2 : wh ≤ 2147483647) (hf : Int) (hhf1 : (-2147483648) ≤ hf) (hhf2 : hf ≤ 2147483647) : pw X d h 206 0 [some (.ref 141), some (pw_i k), some (pw_i mo), some (pw_i wh), some (pw_i hf), none] [] (fun h' v => pw_I h' ∧ pw_E [125, 141, 142, 143] h h' ∧ ∃ a : Int, v = .inl (some (pw_i a)) ∧ 0 ≤ a ∧ a ≤ 1 ∧ ((a = 1 ∧ 0 ≤ k ∧ k ≤ 23 ∧ pw_g h 131 k.toNat = 1 ∧ 0 ≤ mo ∧ mo ≤ 11 ∧ 0 ≤ wh ∧ wh ≤ 99 ∧ 0 ≤ hf ∧ hf ≤ 99) ∨ (a = 0 ∧ ¬ (0 ≤ k ∧ k ≤ 23 ∧ pw_g h 131 k.toNat = 1 ∧ 0 ≤ mo ∧ mo ≤ 11 ∧ 0 ≤ wh ∧ wh ≤ 99 ∧ 0 ≤ hf ∧ hf ≤ 99)))) := by
  have E : pm_ent 206 = some (5, 6, 12, 1, pmc_206) := rfl
  have E0 : pw_E [125, 141, 142, 143] h h := pw_E.rf _ _
  refine pw_ld E (pc' := 1) (st' := [.ref 141]) rfl (fun _ => rfl) ?_
  refine pw_ld E (pc' := 2) (st' := [pw_i 0, .ref 141]) rfl (fun _ => rfl) ?_
  refine pw_putI I E (c := 125) (k := 0) (pc' := 5) rfl rfl rfl rfl (by omega) (by omega) (by omega) (by omega) rfl rfl ?_
  intro h1I h1E
  generalize h1w : pw_w h 125 0 (pw_i 0) = h1 at h1I h1E ⊢
  have h1F := E0.tr (h1E.wk (W' := [125, 141, 142, 143]) (by first | rfl | simp))
  have ht1 : pw_g h1 131 k.toNat = pw_g h 131 k.toNat := by rw [← h1w]; exact pw_g_ne (by omega)
  refine pw_ld E (pc' := 6) (st' := [.ref 141]) rfl (fun _ => rfl) ?_
  refine pw_ld E (pc' := 7) (st' := [pw_i k, .ref 141]) rfl (fun _ => rfl) ?_
  obtain ⟨f2l, f2h, -⟩ := pw_obj (c := 125) h1I rfl
  refine pw_call (m' := 204) (As := [.ref 141, pw_i k]) (rest := []) (ls'' := [some (.ref 141), some (pw_i k)]) (by omega) E rfl (fun _ => pw_iV rfl rfl rfl rfl (pw_cellI f2h rfl)) (rfl : pm_ent 204 = some (2, 2, 12, 1, pmc_204)) rfl rfl (cm_204_t (by omega) h1I (k) (by omega) (by omega)) ?_
  rintro u4 v3 ⟨rfl, x5, rfl, hx5a, hx5b, hx5r⟩
  refine ⟨_, rfl, ?_⟩
  show pw X d h1 206 10 [some (.ref 141), some (pw_i k), some (pw_i mo), some (pw_i wh), some (pw_i hf), none] [pw_i x5] _
  have hx5r : (x5 = 1 ∧ 0 ≤ k ∧ k ≤ 23 ∧ pw_g h1 131 k.toNat = 1) ∨ (x5 = 0 ∧ ¬ (0 ≤ k ∧ k ≤ 23 ∧ pw_g h1 131 k.toNat = 1)) := hx5r
  rcases (by omega : x5 = 1 ∨ x5 = 0) with hb6 | hb6
  · have hb6 : x5 = 1 := by omega
    refine pw_if E (pc' := 41) rfl (by decide) (by omega) (by omega) ?_ ?_
    · intro hc7
      have hc7 : x5 = (0 : Int) := hc7
      exfalso; omega
    · intro hc8
      have hc8 : ¬ (x5 = (0 : Int)) := hc8
      refine pw_ld E (pc' := 14) (st' := [pw_i mo]) rfl (fun _ => rfl) ?_
      refine pw_call (m' := 205) (As := [pw_i mo]) (rest := []) (ls'' := [some (pw_i mo)]) (by omega) E rfl (fun _ => pw_iS rfl rfl rfl) (rfl : pm_ent 205 = some (1, 1, 12, 1, pmc_205)) rfl rfl (cm_205 (by omega) h1I (mo) (by omega) (by omega)) ?_
      rintro u10 v9 ⟨rfl, x11, rfl, hx11a, hx11b, hx11r⟩
      refine ⟨_, rfl, ?_⟩
      show pw X d h1 206 17 [some (.ref 141), some (pw_i k), some (pw_i mo), some (pw_i wh), some (pw_i hf), none] [pw_i x11] _
      have hx11r : (x11 = 1 ∧ 0 ≤ mo ∧ mo ≤ 11) ∨ (x11 = 0 ∧ ¬ (0 ≤ mo ∧ mo ≤ 11)) := hx11r
      rcases (by omega : x11 = 1 ∨ x11 = 0) with hb12 | hb12
      · have hb12 : x11 = 1 := by omega
        refine pw_if E (pc' := 41) rfl (by decide) (by omega) (by omega) ?_ ?_
        · intro hc13
          have hc13 : x11 = (0 : Int) := hc13
          exfalso; omega
        · intro hc14
          have hc14 : ¬ (x11 = (0 : Int)) := hc14
          refine pw_ld E (pc' := 21) (st' := [pw_i wh]) rfl (fun _ => rfl) ?_
          refine pw_ld E (pc' := 22) (st' := [pw_i 0, pw_i wh]) rfl (fun _ => rfl) ?_
          refine pw_bip E (pc' := 24) rfl rfl (by decide) ?_
          refine pw_call (m' := 202) (As := [pw_i wh, pw_i 0, pw_i 99]) (rest := []) (ls'' := [some (pw_i wh), some (pw_i 0), some (pw_i 99)]) (by omega) E rfl (fun _ => pw_iS rfl rfl rfl) (rfl : pm_ent 202 = some (3, 3, 12, 1, pmc_202)) rfl rfl (cm_202 (by omega) h1I (wh) (by omega) (by omega) (0) (by omega) (by omega) (99) (by omega) (by omega)) ?_
          rintro u16 v15 ⟨rfl, x17, rfl, hx17a, hx17b, hx17r⟩
          refine ⟨_, rfl, ?_⟩
          show pw X d h1 206 27 [some (.ref 141), some (pw_i k), some (pw_i mo), some (pw_i wh), some (pw_i hf), none] [pw_i x17] _
          have hx17r : (x17 = 1 ∧ 0 ≤ wh ∧ wh ≤ 99) ∨ (x17 = 0 ∧ ¬ (0 ≤ wh ∧ wh ≤ 99)) := hx17r
          rcases (by omega : x17 = 1 ∨ x17 = 0) with hb18 | hb18
          · have hb18 : x17 = 1 := by omega
            refine pw_if E (pc' := 41) rfl (by decide) (by omega) (by omega) ?_ ?_
            · intro hc19
              have hc19 : x17 = (0 : Int) := hc19
              exfalso; omega
            · intro hc20
              have hc20 : ¬ (x17 = (0 : Int)) := hc20
              refine pw_ld E (pc' := 32) (st' := [pw_i hf]) rfl (fun _ => rfl) ?_
              refine pw_ld E (pc' := 33) (st' := [pw_i 0, pw_i hf]) rfl (fun _ => rfl) ?_
              refine pw_bip E (pc' := 35) rfl rfl (by decide) ?_
              refine pw_call (m' := 202) (As := [pw_i hf, pw_i 0, pw_i 99]) (rest := []) (ls'' := [some (pw_i hf), some (pw_i 0), some (pw_i 99)]) (by omega) E rfl (fun _ => pw_iS rfl rfl rfl) (rfl : pm_ent 202 = some (3, 3, 12, 1, pmc_202)) rfl rfl (cm_202 (by omega) h1I (hf) (by omega) (by omega) (0) (by omega) (by omega) (99) (by omega) (by omega)) ?_
              rintro u22 v21 ⟨rfl, x23, rfl, hx23a, hx23b, hx23r⟩
              refine ⟨_, rfl, ?_⟩
              show pw X d h1 206 38 [some (.ref 141), some (pw_i k), some (pw_i mo), some (pw_i wh), some (pw_i hf), none] [pw_i x23] _
              have hx23r : (x23 = 1 ∧ 0 ≤ hf ∧ hf ≤ 99) ∨ (x23 = 0 ∧ ¬ (0 ≤ hf ∧ hf ≤ 99)) := hx23r
              rcases (by omega : x23 = 1 ∨ x23 = 0) with hb24 | hb24
              · have hb24 : x23 = 1 := by omega
                refine pw_if E (pc' := 43) rfl (by decide) (by omega) (by omega) ?_ ?_
                · intro hc25
                  have hc25 : x23 ≠ (0 : Int) := hc25
                  refine pw_bip E (pc' := 45) rfl rfl (by decide) ?_
                  refine pw_ld E (pc' := 46) (st' := [pw_i k, pw_i 12]) rfl (fun _ => rfl) ?_
                  refine pw_mul E (pc' := 47) rfl rfl ?_
                  refine pw_ld E (pc' := 48) (st' := [pw_i mo, pw_i (12 * k)]) rfl (fun _ => rfl) ?_
                  refine pw_add E (pc' := 49) rfl rfl ?_
                  refine pw_ist E (pc' := 51) (ls' := [some (.ref 141), some (pw_i k), some (pw_i mo), some (pw_i wh), some (pw_i hf), some (pw_i ((12 * k) + mo))]) rfl rfl rfl rfl ?_
                  refine pw_ld E (pc' := 52) (st' := [.ref 141]) rfl (fun _ => rfl) ?_
                  refine pw_getR (b := 157) h1I E (c := 125) (k := 21) (pc' := 55) rfl rfl rfl rfl rfl rfl rfl ?_
                  refine pw_ld E (pc' := 57) (st' := [pw_i ((12 * k) + mo), .ref 157]) rfl (fun _ => rfl) ?_
                  refine pw_ld E (pc' := 58) (st' := [pw_i 1, pw_i ((12 * k) + mo), .ref 157]) rfl (fun _ => rfl) ?_
                  refine pw_ast0 h1I E (c := 141) (pc' := 59) rfl rfl rfl (by decide) rfl (by decide) (by omega) (by omega) rfl (by omega) (by omega) (by omega) (by omega) rfl ?_
                  intro h26I h26E
                  generalize h26w : pw_w h1 141 (((12 * k) + mo).toNat) (pw_i 1) = h26 at h26I h26E ⊢
                  have h26F := h1F.tr (h26E.wk (W' := [125, 141, 142, 143]) (by first | rfl | simp))
                  refine pw_ld E (pc' := 60) (st' := [.ref 141]) rfl (fun _ => rfl) ?_
                  refine pw_getR (b := 158) h26I E (c := 125) (k := 22) (pc' := 63) rfl rfl rfl rfl rfl rfl rfl ?_
                  refine pw_ld E (pc' := 65) (st' := [pw_i ((12 * k) + mo), .ref 158]) rfl (fun _ => rfl) ?_
                  refine pw_ld E (pc' := 66) (st' := [pw_i wh, pw_i ((12 * k) + mo), .ref 158]) rfl (fun _ => rfl) ?_
                  refine pw_ast0 h26I E (c := 142) (pc' := 67) rfl rfl rfl (by decide) rfl (by decide) (by omega) (by omega) rfl (by omega) (by omega) (by omega) (by omega) rfl ?_
                  intro h27I h27E
                  generalize h27w : pw_w h26 142 (((12 * k) + mo).toNat) (pw_i wh) = h27 at h27I h27E ⊢
                  have h27F := h26F.tr (h27E.wk (W' := [125, 141, 142, 143]) (by first | rfl | simp))
                  refine pw_ld E (pc' := 68) (st' := [.ref 141]) rfl (fun _ => rfl) ?_
                  refine pw_getR (b := 159) h27I E (c := 125) (k := 23) (pc' := 71) rfl rfl rfl rfl rfl rfl rfl ?_
                  refine pw_ld E (pc' := 73) (st' := [pw_i ((12 * k) + mo), .ref 159]) rfl (fun _ => rfl) ?_
                  refine pw_ld E (pc' := 75) (st' := [pw_i hf, pw_i ((12 * k) + mo), .ref 159]) rfl (fun _ => rfl) ?_
                  refine pw_ast0 h27I E (c := 143) (pc' := 76) rfl rfl rfl (by decide) rfl (by decide) (by omega) (by omega) rfl (by omega) (by omega) (by omega) (by omega) rfl ?_
                  intro h28I h28E
                  generalize h28w : pw_w h27 143 (((12 * k) + mo).toNat) (pw_i hf) = h28 at h28I h28E ⊢
                  have h28F := h27F.tr (h28E.wk (W' := [125, 141, 142, 143]) (by first | rfl | simp))
                  refine pw_ld E (pc' := 77) (st' := [pw_i 1]) rfl (fun _ => rfl) ?_
                  refine pw_zret E rfl (by omega) ?_
                  exact ⟨h28I, h28F, ⟨_, rfl, by omega, by omega, by omega⟩⟩
                · intro hc29
                  have hc29 : ¬ (x23 ≠ (0 : Int)) := hc29
                  exfalso; omega
              · have hb30 : x23 = 0 := by omega
                refine pw_if E (pc' := 43) rfl (by decide) (by omega) (by omega) ?_ ?_
                · intro hc31
                  have hc31 : x23 ≠ (0 : Int) := hc31
                  exfalso; omega
                · intro hc32
                  have hc32 : ¬ (x23 ≠ (0 : Int)) := hc32
                  refine pw_ld E (pc' := 42) (st' := [pw_i 0]) rfl (fun _ => rfl) ?_
                  refine pw_zret E rfl (by omega) ?_
                  exact ⟨h1I, h1F, ⟨_, rfl, by omega, by omega, by omega⟩⟩
          · have hb33 : x17 = 0 := by omega
            refine pw_if E (pc' := 41) rfl (by decide) (by omega) (by omega) ?_ ?_
            · intro hc34
              have hc34 : x17 = (0 : Int) := hc34
              refine pw_ld E (pc' := 42) (st' := [pw_i 0]) rfl (fun _ => rfl) ?_
              refine pw_zret E rfl (by omega) ?_
              exact ⟨h1I, h1F, ⟨_, rfl, by omega, by omega, by omega⟩⟩
            · intro hc35
              have hc35 : ¬ (x17 = (0 : Int)) := hc35
              exfalso; omega
      · have hb36 : x11 = 0 := by omega
        refine pw_if E (pc' := 41) rfl (by decide) (by omega) (by omega) ?_ ?_
        · intro hc37
          have hc37 : x11 = (0 : Int) := hc37
          refine pw_ld E (pc' := 42) (st' := [pw_i 0]) rfl (fun _ => rfl) ?_
          refine pw_zret E rfl (by omega) ?_
          exact ⟨h1I, h1F, ⟨_, rfl, by omega, by omega, by omega⟩⟩
        · intro hc38
          have hc38 : ¬ (x11 = (0 : Int)) := hc38
          exfalso; omega
  · have hb39 : x5 = 0 := by omega
    refine pw_if E (pc' := 41) rfl (by decide) (by omega) (by omega) ?_ ?_
    · intro hc40
      have hc40 : x5 = (0 : Int) := hc40
      refine pw_ld E (pc' := 42) (st' := [pw_i 0]) rfl (fun _ => rfl) ?_
      refine pw_zret E rfl (by omega) ?_
      exact ⟨h1I, h1F, ⟨_, rfl, by omega, by omega, by omega⟩⟩
    · intro hc41
      have hc41 : ¬ (x5 = (0 : Int)) := hc41
      exfalso; omega
set_option maxHeartbeats 4000000 in
theorem cm_287_t {X : List (Nat × List Value)} {d : Nat} {h : pm_H} (hd : 3 ≤ d) (I : pw_I h) (k : Int) (hk1 : (-2147483648) ≤ k) (hk2 : k ≤ 2147483647) (mo : Int) (hmo1 : (-2147483648) ≤ mo) (hmo2 : mo ≤ 2147483647) (hr : Int) (hhr1 : (-2147483648) ≤ hr) (hhr2 : hr ≤ 2147483647) (tk : Int) (htk1 : (-2147483648) ≤ tk) (htk2 : tk ≤ 2147483647) : pw X d h 287 0 [some (.ref 141), some (pw_i k), some (pw_i mo), some (pw_i hr), some (pw_i tk)] [] (fun h' v => pw_I h' ∧ pw_E [125, 162, 163] h h' ∧ ∃ a : Int, v = .inl (some (pw_i a)) ∧ 0 ≤ a ∧ a ≤ 1 ∧ ((a = 1 ∧ 0 ≤ k ∧ k ≤ 23 ∧ pw_g h 131 k.toNat = 1 ∧ 0 ≤ mo ∧ mo ≤ 11 ∧ 0 ≤ hr ∧ hr ≤ 999 ∧ 0 ≤ tk ∧ tk ≤ 99999) ∨ (a = 0 ∧ ¬ (0 ≤ k ∧ k ≤ 23 ∧ pw_g h 131 k.toNat = 1 ∧ 0 ≤ mo ∧ mo ≤ 11 ∧ 0 ≤ hr ∧ hr ≤ 999 ∧ 0 ≤ tk ∧ tk ≤ 99999)))) := by
  have E : pm_ent 287 = some (5, 5, 12, 1, pmc_287) := rfl
  have E0 : pw_E [125, 162, 163] h h := pw_E.rf _ _
  refine pw_ld E (pc' := 1) (st' := [.ref 141]) rfl (fun _ => rfl) ?_
  refine pw_ld E (pc' := 2) (st' := [pw_i 0, .ref 141]) rfl (fun _ => rfl) ?_
  refine pw_putI I E (c := 125) (k := 0) (pc' := 5) rfl rfl rfl rfl (by omega) (by omega) (by omega) (by omega) rfl rfl ?_
  intro h1I h1E
  generalize h1w : pw_w h 125 0 (pw_i 0) = h1 at h1I h1E ⊢
  have h1F := E0.tr (h1E.wk (W' := [125, 162, 163]) (by first | rfl | simp))
  have ht1 : pw_g h1 131 k.toNat = pw_g h 131 k.toNat := by rw [← h1w]; exact pw_g_ne (by omega)
  refine pw_ld E (pc' := 6) (st' := [.ref 141]) rfl (fun _ => rfl) ?_
  refine pw_ld E (pc' := 7) (st' := [pw_i k, .ref 141]) rfl (fun _ => rfl) ?_
  obtain ⟨f2l, f2h, -⟩ := pw_obj (c := 125) h1I rfl
  refine pw_call (m' := 204) (As := [.ref 141, pw_i k]) (rest := []) (ls'' := [some (.ref 141), some (pw_i k)]) (by omega) E rfl (fun _ => pw_iV rfl rfl rfl rfl (pw_cellI f2h rfl)) (rfl : pm_ent 204 = some (2, 2, 12, 1, pmc_204)) rfl rfl (cm_204_t (by omega) h1I (k) (by omega) (by omega)) ?_
  rintro u4 v3 ⟨rfl, x5, rfl, hx5a, hx5b, hx5r⟩
  refine ⟨_, rfl, ?_⟩
  show pw X d h1 287 10 [some (.ref 141), some (pw_i k), some (pw_i mo), some (pw_i hr), some (pw_i tk)] [pw_i x5] _
  have hx5r : (x5 = 1 ∧ 0 ≤ k ∧ k ≤ 23 ∧ pw_g h1 131 k.toNat = 1) ∨ (x5 = 0 ∧ ¬ (0 ≤ k ∧ k ≤ 23 ∧ pw_g h1 131 k.toNat = 1)) := hx5r
  rcases (by omega : x5 = 1 ∨ x5 = 0) with hb6 | hb6
  · have hb6 : x5 = 1 := by omega
    refine pw_if E (pc' := 43) rfl (by decide) (by omega) (by omega) ?_ ?_
    · intro hc7
      have hc7 : x5 = (0 : Int) := hc7
      exfalso; omega
    · intro hc8
      have hc8 : ¬ (x5 = (0 : Int)) := hc8
      refine pw_ld E (pc' := 14) (st' := [pw_i mo]) rfl (fun _ => rfl) ?_
      refine pw_call (m' := 205) (As := [pw_i mo]) (rest := []) (ls'' := [some (pw_i mo)]) (by omega) E rfl (fun _ => pw_iS rfl rfl rfl) (rfl : pm_ent 205 = some (1, 1, 12, 1, pmc_205)) rfl rfl (cm_205 (by omega) h1I (mo) (by omega) (by omega)) ?_
      rintro u10 v9 ⟨rfl, x11, rfl, hx11a, hx11b, hx11r⟩
      refine ⟨_, rfl, ?_⟩
      show pw X d h1 287 17 [some (.ref 141), some (pw_i k), some (pw_i mo), some (pw_i hr), some (pw_i tk)] [pw_i x11] _
      have hx11r : (x11 = 1 ∧ 0 ≤ mo ∧ mo ≤ 11) ∨ (x11 = 0 ∧ ¬ (0 ≤ mo ∧ mo ≤ 11)) := hx11r
      rcases (by omega : x11 = 1 ∨ x11 = 0) with hb12 | hb12
      · have hb12 : x11 = 1 := by omega
        refine pw_if E (pc' := 43) rfl (by decide) (by omega) (by omega) ?_ ?_
        · intro hc13
          have hc13 : x11 = (0 : Int) := hc13
          exfalso; omega
        · intro hc14
          have hc14 : ¬ (x11 = (0 : Int)) := hc14
          refine pw_ld E (pc' := 21) (st' := [pw_i hr]) rfl (fun _ => rfl) ?_
          refine pw_ld E (pc' := 22) (st' := [pw_i 0, pw_i hr]) rfl (fun _ => rfl) ?_
          refine pw_sip E (pc' := 25) rfl rfl (by decide) ?_
          refine pw_call (m' := 202) (As := [pw_i hr, pw_i 0, pw_i 999]) (rest := []) (ls'' := [some (pw_i hr), some (pw_i 0), some (pw_i 999)]) (by omega) E rfl (fun _ => pw_iS rfl rfl rfl) (rfl : pm_ent 202 = some (3, 3, 12, 1, pmc_202)) rfl rfl (cm_202 (by omega) h1I (hr) (by omega) (by omega) (0) (by omega) (by omega) (999) (by omega) (by omega)) ?_
          rintro u16 v15 ⟨rfl, x17, rfl, hx17a, hx17b, hx17r⟩
          refine ⟨_, rfl, ?_⟩
          show pw X d h1 287 28 [some (.ref 141), some (pw_i k), some (pw_i mo), some (pw_i hr), some (pw_i tk)] [pw_i x17] _
          have hx17r : (x17 = 1 ∧ 0 ≤ hr ∧ hr ≤ 999) ∨ (x17 = 0 ∧ ¬ (0 ≤ hr ∧ hr ≤ 999)) := hx17r
          rcases (by omega : x17 = 1 ∨ x17 = 0) with hb18 | hb18
          · have hb18 : x17 = 1 := by omega
            refine pw_if E (pc' := 43) rfl (by decide) (by omega) (by omega) ?_ ?_
            · intro hc19
              have hc19 : x17 = (0 : Int) := hc19
              exfalso; omega
            · intro hc20
              have hc20 : ¬ (x17 = (0 : Int)) := hc20
              refine pw_ld E (pc' := 33) (st' := [pw_i tk]) rfl (fun _ => rfl) ?_
              refine pw_ld E (pc' := 34) (st' := [pw_i 0, pw_i tk]) rfl (fun _ => rfl) ?_
              refine pw_ldcw (a := 99999) E (pc' := 37) rfl rfl rfl (by decide) ?_
              refine pw_call (m' := 202) (As := [pw_i tk, pw_i 0, pw_i 99999]) (rest := []) (ls'' := [some (pw_i tk), some (pw_i 0), some (pw_i 99999)]) (by omega) E rfl (fun _ => pw_iS rfl rfl rfl) (rfl : pm_ent 202 = some (3, 3, 12, 1, pmc_202)) rfl rfl (cm_202 (by omega) h1I (tk) (by omega) (by omega) (0) (by omega) (by omega) (99999) (by omega) (by omega)) ?_
              rintro u22 v21 ⟨rfl, x23, rfl, hx23a, hx23b, hx23r⟩
              refine ⟨_, rfl, ?_⟩
              show pw X d h1 287 40 [some (.ref 141), some (pw_i k), some (pw_i mo), some (pw_i hr), some (pw_i tk)] [pw_i x23] _
              have hx23r : (x23 = 1 ∧ 0 ≤ tk ∧ tk ≤ 99999) ∨ (x23 = 0 ∧ ¬ (0 ≤ tk ∧ tk ≤ 99999)) := hx23r
              rcases (by omega : x23 = 1 ∨ x23 = 0) with hb24 | hb24
              · have hb24 : x23 = 1 := by omega
                refine pw_if E (pc' := 45) rfl (by decide) (by omega) (by omega) ?_ ?_
                · intro hc25
                  have hc25 : x23 ≠ (0 : Int) := hc25
                  refine pw_ld E (pc' := 46) (st' := [.ref 141]) rfl (fun _ => rfl) ?_
                  refine pw_getR (b := 178) h1I E (c := 125) (k := 51) (pc' := 49) rfl rfl rfl rfl rfl rfl rfl ?_
                  refine pw_bip E (pc' := 51) rfl rfl (by decide) ?_
                  refine pw_ld E (pc' := 52) (st' := [pw_i k, pw_i 12, .ref 178]) rfl (fun _ => rfl) ?_
                  refine pw_mul E (pc' := 53) rfl rfl ?_
                  refine pw_ld E (pc' := 54) (st' := [pw_i mo, pw_i (12 * k), .ref 178]) rfl (fun _ => rfl) ?_
                  refine pw_add E (pc' := 55) rfl rfl ?_
                  refine pw_ld E (pc' := 56) (st' := [pw_i hr, pw_i ((12 * k) + mo), .ref 178]) rfl (fun _ => rfl) ?_
                  refine pw_ast0 h1I E (c := 162) (pc' := 57) rfl rfl rfl (by decide) rfl (by decide) (by omega) (by omega) rfl (by omega) (by omega) (by omega) (by omega) rfl ?_
                  intro h26I h26E
                  generalize h26w : pw_w h1 162 (((12 * k) + mo).toNat) (pw_i hr) = h26 at h26I h26E ⊢
                  have h26F := h1F.tr (h26E.wk (W' := [125, 162, 163]) (by first | rfl | simp))
                  refine pw_ld E (pc' := 58) (st' := [.ref 141]) rfl (fun _ => rfl) ?_
                  refine pw_getR (b := 179) h26I E (c := 125) (k := 52) (pc' := 61) rfl rfl rfl rfl rfl rfl rfl ?_
                  refine pw_bip E (pc' := 63) rfl rfl (by decide) ?_
                  refine pw_ld E (pc' := 64) (st' := [pw_i k, pw_i 12, .ref 179]) rfl (fun _ => rfl) ?_
                  refine pw_mul E (pc' := 65) rfl rfl ?_
                  refine pw_ld E (pc' := 66) (st' := [pw_i mo, pw_i (12 * k), .ref 179]) rfl (fun _ => rfl) ?_
                  refine pw_add E (pc' := 67) rfl rfl ?_
                  refine pw_ld E (pc' := 69) (st' := [pw_i tk, pw_i ((12 * k) + mo), .ref 179]) rfl (fun _ => rfl) ?_
                  refine pw_ast0 h26I E (c := 163) (pc' := 70) rfl rfl rfl (by decide) rfl (by decide) (by omega) (by omega) rfl (by omega) (by omega) (by omega) (by omega) rfl ?_
                  intro h27I h27E
                  generalize h27w : pw_w h26 163 (((12 * k) + mo).toNat) (pw_i tk) = h27 at h27I h27E ⊢
                  have h27F := h26F.tr (h27E.wk (W' := [125, 162, 163]) (by first | rfl | simp))
                  refine pw_ld E (pc' := 71) (st' := [pw_i 1]) rfl (fun _ => rfl) ?_
                  refine pw_zret E rfl (by omega) ?_
                  exact ⟨h27I, h27F, ⟨_, rfl, by omega, by omega, by omega⟩⟩
                · intro hc28
                  have hc28 : ¬ (x23 ≠ (0 : Int)) := hc28
                  exfalso; omega
              · have hb29 : x23 = 0 := by omega
                refine pw_if E (pc' := 45) rfl (by decide) (by omega) (by omega) ?_ ?_
                · intro hc30
                  have hc30 : x23 ≠ (0 : Int) := hc30
                  exfalso; omega
                · intro hc31
                  have hc31 : ¬ (x23 ≠ (0 : Int)) := hc31
                  refine pw_ld E (pc' := 44) (st' := [pw_i 0]) rfl (fun _ => rfl) ?_
                  refine pw_zret E rfl (by omega) ?_
                  exact ⟨h1I, h1F, ⟨_, rfl, by omega, by omega, by omega⟩⟩
          · have hb32 : x17 = 0 := by omega
            refine pw_if E (pc' := 43) rfl (by decide) (by omega) (by omega) ?_ ?_
            · intro hc33
              have hc33 : x17 = (0 : Int) := hc33
              refine pw_ld E (pc' := 44) (st' := [pw_i 0]) rfl (fun _ => rfl) ?_
              refine pw_zret E rfl (by omega) ?_
              exact ⟨h1I, h1F, ⟨_, rfl, by omega, by omega, by omega⟩⟩
            · intro hc34
              have hc34 : ¬ (x17 = (0 : Int)) := hc34
              exfalso; omega
      · have hb35 : x11 = 0 := by omega
        refine pw_if E (pc' := 43) rfl (by decide) (by omega) (by omega) ?_ ?_
        · intro hc36
          have hc36 : x11 = (0 : Int) := hc36
          refine pw_ld E (pc' := 44) (st' := [pw_i 0]) rfl (fun _ => rfl) ?_
          refine pw_zret E rfl (by omega) ?_
          exact ⟨h1I, h1F, ⟨_, rfl, by omega, by omega, by omega⟩⟩
        · intro hc37
          have hc37 : ¬ (x11 = (0 : Int)) := hc37
          exfalso; omega
  · have hb38 : x5 = 0 := by omega
    refine pw_if E (pc' := 43) rfl (by decide) (by omega) (by omega) ?_ ?_
    · intro hc39
      have hc39 : x5 = (0 : Int) := hc39
      refine pw_ld E (pc' := 44) (st' := [pw_i 0]) rfl (fun _ => rfl) ?_
      refine pw_zret E rfl (by omega) ?_
      exact ⟨h1I, h1F, ⟨_, rfl, by omega, by omega, by omega⟩⟩
    · intro hc40
      have hc40 : ¬ (x5 = (0 : Int)) := hc40
      exfalso; omega
