/-! the Readers: the whole text (printed by wip/tool/reader11.py) -/
theorem pw_Sr.wk {c c1 : Nat} {h : pm_H} {T T' : Int} (S : pw_Sr c c1 h T) (ht : T ≤ T') : pw_Sr c c1 h T' := ⟨by have := S.1; omega, fun hz => (S.2 hz).wk (by omega)⟩
theorem pw_SrE {c c1 : Nat} {h h' : pm_H} {T : Int} (S : pw_Sr c c1 h T) (hc : ∀ k, pw_g h' c k = pw_g h c k) (hw : ∀ j, pw_g h' c1 j = pw_g h c1 j) (hl : pw_g h' 30 1 = pw_g h 30 1) : pw_Sr c c1 h' T := by
  refine ⟨by rw [hl]; exact S.1, fun hz => ?_⟩
  rw [hc 7] at hz
  exact pw_Pof (S.2 hz) (hc 4) (hc 5) (hc 6) hw hl
set_option maxHeartbeats 4000000 in
theorem cm_44_26 {X : List (Nat × List Value)} {d : Nat} {h : pm_H} (hd : 6 ≤ d) (I : pw_I h) (hX : pw_Xk X) (hR : pw_Xr X) : pw X d h 44 0 [some (.ref 42), some (.ref 40), some (.ref 46), none, none] [] (fun h' v => pw_I h' ∧ pw_E [24, 26, 27, 30, 31, 32, 33, 34, 36] h h' ∧ ∃ a : Int, v = .inl (some (pw_i a)) ∧ (-2147483648) ≤ a ∧ a ≤ 2147483647 ∧ (a ≠ 0 ∨ pw_g h' 30 1 ≤ 999)) := by
  have E : pm_ent 44 = some (3, 5, 5, 0, pmc_44) := rfl
  have E0 : pw_E [24, 26, 27, 30, 31, 32, 33, 34, 36] h h := pw_E.rf _ _
  refine pw_ld E (pc' := 1) (st' := [.ref 46]) rfl (fun _ => rfl) ?_
  obtain ⟨f1l, f1h, -⟩ := pw_obj (c := 30) I rfl
  refine pw_call (m' := 68) (As := [.ref 46]) (rest := []) (ls'' := [some (.ref 46), none]) (by omega) E rfl (fun _ => pw_iV rfl rfl rfl rfl (pw_cellI f1h rfl)) (rfl : pm_ent 68 = some (1, 2, 7, 4, pmc_68)) rfl rfl (cm_68_30 (by omega) I ) ?_
  rintro h2 v3 ⟨h2I, h2E, hq4, rfl⟩
  refine ⟨_, rfl, ?_⟩
  have h2F := E0.tr (h2E.wk (W' := [24, 26, 27, 30, 31, 32, 33, 34, 36]) (by first | rfl | simp))
  show pw X d h2 44 4 [some (.ref 42), some (.ref 40), some (.ref 46), none, none] [] _
  refine pw_ld E (pc' := 5) (st' := [.ref 40]) rfl (fun _ => rfl) ?_
  obtain ⟨f5l, f5h, -⟩ := pw_obj (c := 24) h2I rfl
  refine pw_call (m' := 100) (As := [.ref 40]) (rest := []) (ls'' := [some (.ref 40)]) (by omega) E rfl (fun _ => pw_iV rfl rfl rfl rfl (pw_cellI f5h rfl)) (rfl : pm_ent 100 = some (1, 1, 9, 4, pmc_100)) rfl rfl (cm_100 (by omega) h2I ) ?_
  rintro h6 v7 ⟨h6I, h6E, rfl⟩
  refine ⟨_, rfl, ?_⟩
  have h6F := h2F.tr (h6E.wk (W' := [24, 26, 27, 30, 31, 32, 33, 34, 36]) (by first | rfl | simp))
  show pw X d h6 44 8 [some (.ref 42), some (.ref 40), some (.ref 46), none, none] [] _
  refine pw_ld E (pc' := 9) (st' := [.ref 42]) rfl (fun _ => rfl) ?_
  refine pw_ld E (pc' := 10) (st' := [pw_i 0, .ref 42]) rfl (fun _ => rfl) ?_
  refine pw_putI h6I E (c := 26) (k := 7) (pc' := 13) rfl rfl rfl rfl (by omega) (by omega) (by omega) (by omega) rfl rfl ?_
  intro h8I h8E
  generalize h8w : pw_w h6 26 7 (pw_i 0) = h8 at h8I h8E ⊢
  have h8F := h6F.tr (h8E.wk (W' := [24, 26, 27, 30, 31, 32, 33, 34, 36]) (by first | rfl | simp))
  refine pw_ld E (pc' := 14) (st' := [pw_i 0]) rfl (fun _ => rfl) ?_
  refine pw_istn E (pc' := 15) (ls' := [some (.ref 42), some (.ref 40), some (.ref 46), some (pw_i 0), none]) rfl rfl rfl rfl ?_
  have L15 : ∀ (n15 : Nat) (k15_3 : Int) (k15_4 : Option Value) (h15 : pm_H), pw_I h15 → pw_E [24, 26, 27, 30, 31, 32, 33, 34, 36] h h15 → pw_Sr 26 27 h15 (pw_g h15 24 3) → 0 ≤ k15_3 → k15_3 ≤ 1001 → (1001 - k15_3).toNat = n15 → pw X d h15 44 15 [some (.ref 42), some (.ref 40), some (.ref 46), some (pw_i k15_3), k15_4] [] (fun h' v => pw_I h' ∧ pw_E [24, 26, 27, 30, 31, 32, 33, 34, 36] h h' ∧ ∃ a : Int, v = .inl (some (pw_i a)) ∧ (-2147483648) ≤ a ∧ a ≤ 2147483647 ∧ (a ≠ 0 ∨ pw_g h' 30 1 ≤ 999)) := by
    intro n15
    induction n15 using Nat.strongRecOn with
    | ind n15 ih15 =>
      intro k15_3 k15_4 h15 I15 E15 S15 k15_3a k15_3b hm15
      have T15 := pw_gI (c := 24) (k := 3) I15 rfl rfl
      have L15a := S15.1
      refine pw_ld E (pc' := 16) (st' := [pw_i k15_3]) rfl (fun _ => rfl) ?_
      refine pw_sip E (pc' := 19) rfl rfl (by decide) ?_
      refine pw_if2 E (pc' := 66) rfl (by decide) (by omega) (by omega) (by decide) (by decide) ?_ ?_
      · intro hc9
        have hc9 : (1000 : Int) < k15_3 := hc9
        refine pw_ld E (pc' := 67) (st' := [pw_i 0]) rfl (fun _ => rfl) ?_
        refine pw_iret E rfl ?_
        exact ⟨I15, E15, ⟨_, rfl, by omega, by omega, Or.inr (by omega)⟩⟩
      · intro hc10
        have hc10 : ¬ ((1000 : Int) < k15_3) := hc10
        refine pw_ld E (pc' := 23) (st' := [.ref 40]) rfl (fun _ => rfl) ?_
        obtain ⟨f11l, f11h, -⟩ := pw_obj (c := 24) I15 rfl
        refine pw_call (m' := 101) (As := [.ref 40]) (rest := []) (ls'' := [some (.ref 40)]) (by omega) E rfl (fun _ => pw_iV rfl rfl rfl rfl (pw_cellI f11h rfl)) (rfl : pm_ent 101 = some (1, 1, 9, 4, pmc_101)) rfl rfl (cm_101_24 (by omega) I15 hX ) ?_
        rintro h12 v13 ⟨h12I, h12E, hq14, rfl⟩
        refine ⟨_, rfl, ?_⟩
        have h12F := E15.tr (h12E.wk (W' := [24, 26, 27, 30, 31, 32, 33, 34, 36]) (by first | rfl | simp))
        have l12 := pw_Eg (c := 30) I15 h12E rfl rfl 1
        have S12 : pw_Sr 26 27 h12 (pw_g h15 24 3) := pw_SrE S15 (pw_Eg (c := 26) I15 h12E rfl rfl) (pw_Eg (c := 27) I15 h12E rfl rfl) l12
        show pw X d h12 44 26 [some (.ref 42), some (.ref 40), some (.ref 46), some (pw_i k15_3), k15_4] [] _
        refine pw_ld E (pc' := 27) (st' := [.ref 42]) rfl (fun _ => rfl) ?_
        refine pw_ld E (pc' := 28) (st' := [.ref 40, .ref 42]) rfl (fun _ => rfl) ?_
        refine pw_ld E (pc' := 29) (st' := [.ref 46, .ref 40, .ref 42]) rfl (fun _ => rfl) ?_
        obtain ⟨f15l, f15h, -⟩ := pw_obj (c := 26) h12I rfl
        refine pw_call (m' := 45) (As := [.ref 42, .ref 40, .ref 46]) (rest := []) (ls'' := [some (.ref 42), some (.ref 40), some (.ref 46)]) (by omega) E rfl (fun _ => pw_iV rfl rfl rfl rfl (pw_cellI f15h rfl)) (rfl : pm_ent 45 = some (3, 3, 5, 0, pmc_45)) rfl rfl (cm_45_26 (by omega) h12I hX hR (T := pw_g h15 24 3) T15.1 hq14.2 S12) ?_
        rintro h16 v17 ⟨h16I, h16E, hp, x18, rfl, hx18a, hx18b, hz⟩
        refine ⟨_, rfl, ?_⟩
        have h16F := h12F.tr (h16E.wk (W' := [24, 26, 27, 30, 31, 32, 33, 34, 36]) (by first | rfl | simp))
        have k16 := pw_Eg (c := 24) h12I h16E rfl rfl 4
        have e16 := pw_Eg (c := 24) h12I h16E rfl rfl 3
        show pw X d h16 44 32 [some (.ref 42), some (.ref 40), some (.ref 46), some (pw_i k15_3), k15_4] [pw_i x18] _
        refine pw_ist E (pc' := 34) (ls' := [some (.ref 42), some (.ref 40), some (.ref 46), some (pw_i k15_3), some (pw_i x18)]) rfl rfl rfl rfl ?_
        refine pw_ld E (pc' := 36) (st' := [pw_i x18]) rfl (fun _ => rfl) ?_
        refine pw_if E (pc' := 50) rfl (by decide) (by omega) (by omega) ?_ ?_
        · intro hc19
          have hc19 : x18 = (0 : Int) := hc19
          refine pw_ld E (pc' := 51) (st' := [.ref 40]) rfl (fun _ => rfl) ?_
          obtain ⟨f20l, f20h, -⟩ := pw_obj (c := 24) h16I rfl
          refine pw_call (m' := 107) (As := [.ref 40]) (rest := []) (ls'' := [some (.ref 40)]) (by omega) E rfl (fun _ => pw_iV rfl rfl rfl rfl (pw_cellI f20h rfl)) (rfl : pm_ent 107 = some (1, 1, 9, 0, pmc_107)) rfl rfl (cm_107_24 (by omega) h16I ) ?_
          rintro u22 v21 ⟨rfl, x23, rfl, hx23a, hx23b, hx23r⟩
          refine ⟨_, rfl, ?_⟩
          show pw X d h16 44 54 [some (.ref 42), some (.ref 40), some (.ref 46), some (pw_i k15_3), some (pw_i x18)] [pw_i x23] _
          have hx23r : x23 = pw_g h16 24 4 := hx23r
          refine pw_ld E (pc' := 55) (st' := [pw_i 4, pw_i x23]) rfl (fun _ => rfl) ?_
          refine pw_if2 E (pc' := 60) rfl (by decide) (by omega) (by omega) (by decide) (by decide) ?_ ?_
          · intro hc24
            have hc24 : x23 ≠ (4 : Int) := hc24
            refine pw_inc E (pc' := 63) (ls' := [some (.ref 42), some (.ref 40), some (.ref 46), some (pw_i (k15_3 + 1)), some (pw_i x18)]) rfl rfl rfl rfl ?_
            refine pw_goto E (pc' := 15) rfl (by decide) ?_
            exact ih15 _ (by omega) (k15_3 + 1) (some (pw_i x18)) h16 h16I h16F (hp.wk (by omega)) (by omega) (by omega)  rfl
          · intro hc25
            have hc25 : ¬ (x23 ≠ (4 : Int)) := hc25
            refine pw_ld E (pc' := 59) (st' := [pw_i 0]) rfl (fun _ => rfl) ?_
            refine pw_iret E rfl ?_
            exact ⟨h16I, h16F, ⟨_, rfl, by omega, by omega, Or.inr (by omega)⟩⟩
        · intro hc26
          have hc26 : ¬ (x18 = (0 : Int)) := hc26
          refine pw_ld E (pc' := 41) (st' := [pw_i x18]) rfl (fun _ => rfl) ?_
          refine pw_bip E (pc' := 43) rfl rfl (by decide) ?_
          refine pw_ld E (pc' := 44) (st' := [.ref 40, pw_i 16, pw_i x18]) rfl (fun _ => rfl) ?_
          obtain ⟨f27l, f27h, -⟩ := pw_obj (c := 24) h16I rfl
          refine pw_call (m' := 111) (As := [.ref 40]) (rest := [pw_i 16, pw_i x18]) (ls'' := [some (.ref 40)]) (by omega) E rfl (fun _ => pw_iV rfl rfl rfl rfl (pw_cellI f27h rfl)) (rfl : pm_ent 111 = some (1, 1, 9, 0, pmc_111)) rfl rfl (cm_111 (by omega) h16I ) ?_
          rintro u29 v28 ⟨rfl, x30, rfl, hx30a, hx30b⟩
          refine ⟨_, rfl, ?_⟩
          show pw X d h16 44 47 [some (.ref 42), some (.ref 40), some (.ref 46), some (pw_i k15_3), some (pw_i x18)] [pw_i x30, pw_i 16, pw_i x18] _
          refine pw_mul E (pc' := 48) rfl rfl ?_
          refine pw_add E (pc' := 49) rfl rfl ?_
          refine pw_iret E rfl ?_
          exact ⟨h16I, h16F, ⟨_, rfl, by omega, by omega, Or.inl (by omega)⟩⟩
  have z7 : pw_g h8 26 7 = 0 := by rw [← h8w]; exact pw_g_eq (c := 26) (k := 7) h6I rfl rfl (by omega) (by omega)
  have z1 : pw_g h8 30 1 = pw_g h6 30 1 := by rw [← h8w]; exact pw_g_ne (by omega)
  have y1 := pw_Eg (c := 30) h2I h6E rfl rfl 1
  exact L15 _ (0) (none) h8 h8I h8F ⟨Or.inl (by omega), fun hz => by omega⟩ (by omega) (by omega)  rfl
set_option maxHeartbeats 4000000 in
theorem cm_44_28 {X : List (Nat × List Value)} {d : Nat} {h : pm_H} (hd : 6 ≤ d) (I : pw_I h) (hX : pw_Xk X) (hR : pw_Xr X) : pw X d h 44 0 [some (.ref 44), some (.ref 40), some (.ref 46), none, none] [] (fun h' v => pw_I h' ∧ pw_E [24, 28, 29, 30, 31, 32, 33, 34, 36] h h' ∧ ∃ a : Int, v = .inl (some (pw_i a)) ∧ (-2147483648) ≤ a ∧ a ≤ 2147483647 ∧ (a ≠ 0 ∨ pw_g h' 30 1 ≤ 999)) := by
  have E : pm_ent 44 = some (3, 5, 5, 0, pmc_44) := rfl
  have E0 : pw_E [24, 28, 29, 30, 31, 32, 33, 34, 36] h h := pw_E.rf _ _
  refine pw_ld E (pc' := 1) (st' := [.ref 46]) rfl (fun _ => rfl) ?_
  obtain ⟨f1l, f1h, -⟩ := pw_obj (c := 30) I rfl
  refine pw_call (m' := 68) (As := [.ref 46]) (rest := []) (ls'' := [some (.ref 46), none]) (by omega) E rfl (fun _ => pw_iV rfl rfl rfl rfl (pw_cellI f1h rfl)) (rfl : pm_ent 68 = some (1, 2, 7, 4, pmc_68)) rfl rfl (cm_68_30 (by omega) I ) ?_
  rintro h2 v3 ⟨h2I, h2E, hq4, rfl⟩
  refine ⟨_, rfl, ?_⟩
  have h2F := E0.tr (h2E.wk (W' := [24, 28, 29, 30, 31, 32, 33, 34, 36]) (by first | rfl | simp))
  show pw X d h2 44 4 [some (.ref 44), some (.ref 40), some (.ref 46), none, none] [] _
  refine pw_ld E (pc' := 5) (st' := [.ref 40]) rfl (fun _ => rfl) ?_
  obtain ⟨f5l, f5h, -⟩ := pw_obj (c := 24) h2I rfl
  refine pw_call (m' := 100) (As := [.ref 40]) (rest := []) (ls'' := [some (.ref 40)]) (by omega) E rfl (fun _ => pw_iV rfl rfl rfl rfl (pw_cellI f5h rfl)) (rfl : pm_ent 100 = some (1, 1, 9, 4, pmc_100)) rfl rfl (cm_100 (by omega) h2I ) ?_
  rintro h6 v7 ⟨h6I, h6E, rfl⟩
  refine ⟨_, rfl, ?_⟩
  have h6F := h2F.tr (h6E.wk (W' := [24, 28, 29, 30, 31, 32, 33, 34, 36]) (by first | rfl | simp))
  show pw X d h6 44 8 [some (.ref 44), some (.ref 40), some (.ref 46), none, none] [] _
  refine pw_ld E (pc' := 9) (st' := [.ref 44]) rfl (fun _ => rfl) ?_
  refine pw_ld E (pc' := 10) (st' := [pw_i 0, .ref 44]) rfl (fun _ => rfl) ?_
  refine pw_putI h6I E (c := 28) (k := 7) (pc' := 13) rfl rfl rfl rfl (by omega) (by omega) (by omega) (by omega) rfl rfl ?_
  intro h8I h8E
  generalize h8w : pw_w h6 28 7 (pw_i 0) = h8 at h8I h8E ⊢
  have h8F := h6F.tr (h8E.wk (W' := [24, 28, 29, 30, 31, 32, 33, 34, 36]) (by first | rfl | simp))
  refine pw_ld E (pc' := 14) (st' := [pw_i 0]) rfl (fun _ => rfl) ?_
  refine pw_istn E (pc' := 15) (ls' := [some (.ref 44), some (.ref 40), some (.ref 46), some (pw_i 0), none]) rfl rfl rfl rfl ?_
  have L15 : ∀ (n15 : Nat) (k15_3 : Int) (k15_4 : Option Value) (h15 : pm_H), pw_I h15 → pw_E [24, 28, 29, 30, 31, 32, 33, 34, 36] h h15 → pw_Sr 28 29 h15 (pw_g h15 24 3) → 0 ≤ k15_3 → k15_3 ≤ 1001 → (1001 - k15_3).toNat = n15 → pw X d h15 44 15 [some (.ref 44), some (.ref 40), some (.ref 46), some (pw_i k15_3), k15_4] [] (fun h' v => pw_I h' ∧ pw_E [24, 28, 29, 30, 31, 32, 33, 34, 36] h h' ∧ ∃ a : Int, v = .inl (some (pw_i a)) ∧ (-2147483648) ≤ a ∧ a ≤ 2147483647 ∧ (a ≠ 0 ∨ pw_g h' 30 1 ≤ 999)) := by
    intro n15
    induction n15 using Nat.strongRecOn with
    | ind n15 ih15 =>
      intro k15_3 k15_4 h15 I15 E15 S15 k15_3a k15_3b hm15
      have T15 := pw_gI (c := 24) (k := 3) I15 rfl rfl
      have L15a := S15.1
      refine pw_ld E (pc' := 16) (st' := [pw_i k15_3]) rfl (fun _ => rfl) ?_
      refine pw_sip E (pc' := 19) rfl rfl (by decide) ?_
      refine pw_if2 E (pc' := 66) rfl (by decide) (by omega) (by omega) (by decide) (by decide) ?_ ?_
      · intro hc9
        have hc9 : (1000 : Int) < k15_3 := hc9
        refine pw_ld E (pc' := 67) (st' := [pw_i 0]) rfl (fun _ => rfl) ?_
        refine pw_iret E rfl ?_
        exact ⟨I15, E15, ⟨_, rfl, by omega, by omega, Or.inr (by omega)⟩⟩
      · intro hc10
        have hc10 : ¬ ((1000 : Int) < k15_3) := hc10
        refine pw_ld E (pc' := 23) (st' := [.ref 40]) rfl (fun _ => rfl) ?_
        obtain ⟨f11l, f11h, -⟩ := pw_obj (c := 24) I15 rfl
        refine pw_call (m' := 101) (As := [.ref 40]) (rest := []) (ls'' := [some (.ref 40)]) (by omega) E rfl (fun _ => pw_iV rfl rfl rfl rfl (pw_cellI f11h rfl)) (rfl : pm_ent 101 = some (1, 1, 9, 4, pmc_101)) rfl rfl (cm_101_24 (by omega) I15 hX ) ?_
        rintro h12 v13 ⟨h12I, h12E, hq14, rfl⟩
        refine ⟨_, rfl, ?_⟩
        have h12F := E15.tr (h12E.wk (W' := [24, 28, 29, 30, 31, 32, 33, 34, 36]) (by first | rfl | simp))
        have l12 := pw_Eg (c := 30) I15 h12E rfl rfl 1
        have S12 : pw_Sr 28 29 h12 (pw_g h15 24 3) := pw_SrE S15 (pw_Eg (c := 28) I15 h12E rfl rfl) (pw_Eg (c := 29) I15 h12E rfl rfl) l12
        show pw X d h12 44 26 [some (.ref 44), some (.ref 40), some (.ref 46), some (pw_i k15_3), k15_4] [] _
        refine pw_ld E (pc' := 27) (st' := [.ref 44]) rfl (fun _ => rfl) ?_
        refine pw_ld E (pc' := 28) (st' := [.ref 40, .ref 44]) rfl (fun _ => rfl) ?_
        refine pw_ld E (pc' := 29) (st' := [.ref 46, .ref 40, .ref 44]) rfl (fun _ => rfl) ?_
        obtain ⟨f15l, f15h, -⟩ := pw_obj (c := 28) h12I rfl
        refine pw_call (m' := 45) (As := [.ref 44, .ref 40, .ref 46]) (rest := []) (ls'' := [some (.ref 44), some (.ref 40), some (.ref 46)]) (by omega) E rfl (fun _ => pw_iV rfl rfl rfl rfl (pw_cellI f15h rfl)) (rfl : pm_ent 45 = some (3, 3, 5, 0, pmc_45)) rfl rfl (cm_45_28 (by omega) h12I hX hR (T := pw_g h15 24 3) T15.1 hq14.2 S12) ?_
        rintro h16 v17 ⟨h16I, h16E, hp, x18, rfl, hx18a, hx18b, hz⟩
        refine ⟨_, rfl, ?_⟩
        have h16F := h12F.tr (h16E.wk (W' := [24, 28, 29, 30, 31, 32, 33, 34, 36]) (by first | rfl | simp))
        have k16 := pw_Eg (c := 24) h12I h16E rfl rfl 4
        have e16 := pw_Eg (c := 24) h12I h16E rfl rfl 3
        show pw X d h16 44 32 [some (.ref 44), some (.ref 40), some (.ref 46), some (pw_i k15_3), k15_4] [pw_i x18] _
        refine pw_ist E (pc' := 34) (ls' := [some (.ref 44), some (.ref 40), some (.ref 46), some (pw_i k15_3), some (pw_i x18)]) rfl rfl rfl rfl ?_
        refine pw_ld E (pc' := 36) (st' := [pw_i x18]) rfl (fun _ => rfl) ?_
        refine pw_if E (pc' := 50) rfl (by decide) (by omega) (by omega) ?_ ?_
        · intro hc19
          have hc19 : x18 = (0 : Int) := hc19
          refine pw_ld E (pc' := 51) (st' := [.ref 40]) rfl (fun _ => rfl) ?_
          obtain ⟨f20l, f20h, -⟩ := pw_obj (c := 24) h16I rfl
          refine pw_call (m' := 107) (As := [.ref 40]) (rest := []) (ls'' := [some (.ref 40)]) (by omega) E rfl (fun _ => pw_iV rfl rfl rfl rfl (pw_cellI f20h rfl)) (rfl : pm_ent 107 = some (1, 1, 9, 0, pmc_107)) rfl rfl (cm_107_24 (by omega) h16I ) ?_
          rintro u22 v21 ⟨rfl, x23, rfl, hx23a, hx23b, hx23r⟩
          refine ⟨_, rfl, ?_⟩
          show pw X d h16 44 54 [some (.ref 44), some (.ref 40), some (.ref 46), some (pw_i k15_3), some (pw_i x18)] [pw_i x23] _
          have hx23r : x23 = pw_g h16 24 4 := hx23r
          refine pw_ld E (pc' := 55) (st' := [pw_i 4, pw_i x23]) rfl (fun _ => rfl) ?_
          refine pw_if2 E (pc' := 60) rfl (by decide) (by omega) (by omega) (by decide) (by decide) ?_ ?_
          · intro hc24
            have hc24 : x23 ≠ (4 : Int) := hc24
            refine pw_inc E (pc' := 63) (ls' := [some (.ref 44), some (.ref 40), some (.ref 46), some (pw_i (k15_3 + 1)), some (pw_i x18)]) rfl rfl rfl rfl ?_
            refine pw_goto E (pc' := 15) rfl (by decide) ?_
            exact ih15 _ (by omega) (k15_3 + 1) (some (pw_i x18)) h16 h16I h16F (hp.wk (by omega)) (by omega) (by omega)  rfl
          · intro hc25
            have hc25 : ¬ (x23 ≠ (4 : Int)) := hc25
            refine pw_ld E (pc' := 59) (st' := [pw_i 0]) rfl (fun _ => rfl) ?_
            refine pw_iret E rfl ?_
            exact ⟨h16I, h16F, ⟨_, rfl, by omega, by omega, Or.inr (by omega)⟩⟩
        · intro hc26
          have hc26 : ¬ (x18 = (0 : Int)) := hc26
          refine pw_ld E (pc' := 41) (st' := [pw_i x18]) rfl (fun _ => rfl) ?_
          refine pw_bip E (pc' := 43) rfl rfl (by decide) ?_
          refine pw_ld E (pc' := 44) (st' := [.ref 40, pw_i 16, pw_i x18]) rfl (fun _ => rfl) ?_
          obtain ⟨f27l, f27h, -⟩ := pw_obj (c := 24) h16I rfl
          refine pw_call (m' := 111) (As := [.ref 40]) (rest := [pw_i 16, pw_i x18]) (ls'' := [some (.ref 40)]) (by omega) E rfl (fun _ => pw_iV rfl rfl rfl rfl (pw_cellI f27h rfl)) (rfl : pm_ent 111 = some (1, 1, 9, 0, pmc_111)) rfl rfl (cm_111 (by omega) h16I ) ?_
          rintro u29 v28 ⟨rfl, x30, rfl, hx30a, hx30b⟩
          refine ⟨_, rfl, ?_⟩
          show pw X d h16 44 47 [some (.ref 44), some (.ref 40), some (.ref 46), some (pw_i k15_3), some (pw_i x18)] [pw_i x30, pw_i 16, pw_i x18] _
          refine pw_mul E (pc' := 48) rfl rfl ?_
          refine pw_add E (pc' := 49) rfl rfl ?_
          refine pw_iret E rfl ?_
          exact ⟨h16I, h16F, ⟨_, rfl, by omega, by omega, Or.inl (by omega)⟩⟩
  have z7 : pw_g h8 28 7 = 0 := by rw [← h8w]; exact pw_g_eq (c := 28) (k := 7) h6I rfl rfl (by omega) (by omega)
  have z1 : pw_g h8 30 1 = pw_g h6 30 1 := by rw [← h8w]; exact pw_g_ne (by omega)
  have y1 := pw_Eg (c := 30) h2I h6E rfl rfl 1
  exact L15 _ (0) (none) h8 h8I h8F ⟨Or.inl (by omega), fun hz => by omega⟩ (by omega) (by omega)  rfl
