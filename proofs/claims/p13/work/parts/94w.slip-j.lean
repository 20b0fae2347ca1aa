section
/-! slips exactly (printed by wip/tool/mslip.py) -/
def pw_hm (w g t : Int) : Int := 10 * w + t * g
end
section
/-! other rivers exactly (printed by wip/tool/mothr.py) -/
section Py
variable {X : List (Nat × List Value)} {d : Nat} {h : pm_H} {m pc pc' len na nl own rt : Nat} {C : pm_T (Instr × Nat)} {ls : pm_L} {r : List Value} {Q : pm_H → (Option Value ⊕ Unit) → Prop}
theorem pw_getLM {ix c ci k t a : Nat} {sps : List pw_F} {lo hi : Int} (I : pw_I h) (he : pm_ent m = some (na, nl, own, rt, C)) (hq : pm_get C pc = some (.getfield ix, len)) (hl : pm_get (pm_lnk own) ix = some (0, ci, k, t)) (hs : pw_T[c]? = some (.inr (ci, sps))) (hk : sps[k]? = some (1, lo, hi)) (ha : 16 + c = a) (hc : pc + len = pc') (H : pw X d h m pc' ls (.long (Int64.ofInt (pw_gm h c k)) :: r) Q) : pw X d h m pc ls (.ref a :: r) Q := by
  refine pw_getL I he hq hl hs hk ha hc ?_
  unfold pw_gm at H
  rw [Int64.ofInt_toInt] at H
  exact H
end Py

set_option maxHeartbeats 4000000 in
theorem cm_37_o {X : List (Nat × List Value)} {d : Nat} {h : pm_H} (hd : 2 ≤ d) (I : pw_I h) (su : Int) (hsu1 : (-9999) ≤ su) (hsu2 : su ≤ 9999) (n : Int) (hn1 : 1 ≤ n) (hn2 : n ≤ 999) (z : Int) (hz1 : 0 ≤ z) (hz2 : z ≤ 1) : pw X d h 37 0 [some (.ref 116), some (pw_i su), some (pw_i n), some (pw_i z)] [] (fun h' v => pw_I h' ∧ pw_E [100, 101, 102, 103] h h' ∧ ∃ a : Int, v = .inl (some (pw_i a)) ∧ (-1) ≤ a ∧ a ≤ 19 ∧ ((pw_g h 100 3 < 20 ∧ a = pw_g h 100 3 ∧ pw_g h' 100 3 = pw_g h 100 3 + 1 ∧ pw_up h h' 101 (pw_g h 100 3) (su) ∧ pw_up h h' 102 (pw_g h 100 3) (n) ∧ pw_up h h' 103 (pw_g h 100 3) (z)) ∨ (20 ≤ pw_g h 100 3 ∧ a = -1 ∧ pw_g h' 100 3 = pw_g h 100 3 ∧ pw_sm h h' 101 ∧ pw_sm h h' 102 ∧ pw_sm h h' 103))) := by
  have E : pm_ent 37 = some (4, 4, 4, 0, pmc_37) := rfl
  have E0 : pw_E [100, 101, 102, 103] h h := pw_E.rf _ _
  refine pw_ld E (pc' := 1) (st' := [.ref 116]) rfl (fun _ => rfl) ?_
  obtain ⟨f1l, f1h, -⟩ := pw_obj (c := 100) I rfl
  refine pw_call (m' := 36) (As := [.ref 116]) (rest := []) (ls'' := [some (.ref 116)]) (Nat.le_trans (by decide) hd) E rfl (fun _ => pw_iV rfl rfl rfl rfl (pw_cellI f1h rfl)) (rfl : pm_ent 36 = some (1, 1, 4, 1, pmc_36)) rfl rfl (cm_36 (pw_dp hd (by decide)) I ) ?_
  rintro u3 v2 ⟨rfl, x4, rfl, hx4a, hx4b, hx4r⟩
  refine ⟨_, rfl, ?_⟩
  show pw X d h 37 4 [some (.ref 116), some (pw_i su), some (pw_i n), some (pw_i z)] [pw_i x4] _
  change (x4 = 1 ∧ 20 ≤ pw_g h 100 3) ∨ (x4 = 0 ∧ pw_g h 100 3 < 20) at hx4r
  rcases (by omega : x4 = 1 ∨ x4 = 0) with hb5 | hb5
  · skip
    refine pw_if E (pc' := 9) rfl (by decide) (by omega) (by omega) ?_ ?_
    · intro hc6
      change x4 = (0 : Int) at hc6
      exfalso; omega
    · intro hc7
      change ¬ (x4 = (0 : Int)) at hc7
      refine pw_ld E (pc' := 8) (st' := [pw_i ((-1))]) rfl (fun _ => rfl) ?_
      refine pw_iret E rfl ?_
      exact ⟨I, E0, ⟨_, rfl, by omega, by omega, Or.inr ⟨by omega, rfl, rfl, fun _ => rfl, fun _ => rfl, fun _ => rfl⟩⟩⟩
  · skip
    refine pw_if E (pc' := 9) rfl (by decide) (by omega) (by omega) ?_ ?_
    · intro hc9
      change x4 = (0 : Int) at hc9
      refine pw_ld E (pc' := 10) (st' := [.ref 116]) rfl (fun _ => rfl) ?_
      refine pw_getR (b := 117) I E (c := 100) (k := 0) (pc' := 13) rfl rfl rfl rfl rfl rfl rfl ?_
      refine pw_ld E (pc' := 14) (st' := [.ref 116, .ref 117]) rfl (fun _ => rfl) ?_
      refine pw_getI2 I E (c := 100) (k := 3) (pc' := 17) rfl rfl rfl rfl rfl rfl (fun hf10a hf10b => ?_)
      refine pw_ld E (pc' := 18) (st' := [pw_i su, pw_i (pw_g h 100 3), .ref 117]) rfl (fun _ => rfl) ?_
      refine pw_ast0 I E (c := 101) (pc' := 19) rfl rfl rfl (by decide) rfl (by decide) (by omega) (by omega) rfl (by omega) (by omega) (by omega) (by omega) rfl ?_
      intro h11I h11E
      generalize h11w : pw_w h 101 ((pw_g h 100 3).toNat) (pw_i su) = h11 at h11I h11E ⊢
      have h11F := E0.tr (h11E.wk (W' := [100, 101, 102, 103]) (by first | rfl | simp))
      refine pw_ld E (pc' := 20) (st' := [.ref 116]) rfl (fun _ => rfl) ?_
      refine pw_getR (b := 118) h11I E (c := 100) (k := 1) (pc' := 23) rfl rfl rfl rfl rfl rfl rfl ?_
      refine pw_ld E (pc' := 24) (st' := [.ref 116, .ref 118]) rfl (fun _ => rfl) ?_
      have he13 : pw_g h11 100 3 = pw_g h 100 3 := by rw [← h11w]; exact pw_g_ne (by omega)
      refine pw_getI2 h11I E (c := 100) (k := 3) (pc' := 27) rfl rfl rfl rfl rfl rfl (fun hf12a hf12b => ?_)
      refine pw_ld E (pc' := 28) (st' := [pw_i n, pw_i (pw_g h11 100 3), .ref 118]) rfl (fun _ => rfl) ?_
      refine pw_ast0 h11I E (c := 102) (pc' := 29) rfl rfl rfl (by decide) rfl (by decide) (by omega) (by omega) rfl (by omega) (by omega) (by omega) (by omega) rfl ?_
      intro h14I h14E
      generalize h14w : pw_w h11 102 ((pw_g h11 100 3).toNat) (pw_i n) = h14 at h14I h14E ⊢
      have h14F := h11F.tr (h14E.wk (W' := [100, 101, 102, 103]) (by first | rfl | simp))
      refine pw_ld E (pc' := 30) (st' := [.ref 116]) rfl (fun _ => rfl) ?_
      refine pw_getR (b := 119) h14I E (c := 100) (k := 2) (pc' := 33) rfl rfl rfl rfl rfl rfl rfl ?_
      refine pw_ld E (pc' := 34) (st' := [.ref 116, .ref 119]) rfl (fun _ => rfl) ?_
      have he16 : pw_g h14 100 3 = pw_g h11 100 3 := by rw [← h14w]; exact pw_g_ne (by omega)
      refine pw_getI2 h14I E (c := 100) (k := 3) (pc' := 37) rfl rfl rfl rfl rfl rfl (fun hf15a hf15b => ?_)
      refine pw_ld E (pc' := 38) (st' := [pw_i z, pw_i (pw_g h14 100 3), .ref 119]) rfl (fun _ => rfl) ?_
      refine pw_ast0 h14I E (c := 103) (pc' := 39) rfl rfl rfl (by decide) rfl (by decide) (by omega) (by omega) (pw_b1 (by omega) (by omega)) (by omega) (by omega) (by omega) (by omega) rfl ?_
      intro h17I h17E
      generalize h17w : pw_w h14 103 ((pw_g h14 100 3).toNat) (pw_i z) = h17 at h17I h17E ⊢
      have h17F := h14F.tr (h17E.wk (W' := [100, 101, 102, 103]) (by first | rfl | simp))
      refine pw_ld E (pc' := 40) (st' := [.ref 116]) rfl (fun _ => rfl) ?_
      refine pw_ld E (pc' := 41) (st' := [.ref 116, .ref 116]) rfl (fun _ => rfl) ?_
      have he19 : pw_g h17 100 3 = pw_g h14 100 3 := by rw [← h17w]; exact pw_g_ne (by omega)
      refine pw_getI2 h17I E (c := 100) (k := 3) (pc' := 44) rfl rfl rfl rfl rfl rfl (fun hf18a hf18b => ?_)
      refine pw_ld E (pc' := 45) (st' := [pw_i 1, pw_i (pw_g h17 100 3), .ref 116]) rfl (fun _ => rfl) ?_
      refine pw_add E (pc' := 46) rfl rfl ?_
      refine pw_putI h17I E (c := 100) (k := 3) (pc' := 49) rfl rfl rfl rfl (by omega) (by omega) (by omega) (by omega) rfl rfl ?_
      intro h20I h20E
      generalize h20w : pw_w h17 100 3 (pw_i ((pw_g h17 100 3) + 1)) = h20 at h20I h20E ⊢
      have h20F := h17F.tr (h20E.wk (W' := [100, 101, 102, 103]) (by first | rfl | simp))
      refine pw_ld E (pc' := 50) (st' := [.ref 116]) rfl (fun _ => rfl) ?_
      have he22 : pw_g h20 100 3 = (pw_g h17 100 3) + 1 := by rw [← h20w]; exact pw_g_eq (c := 100) (k := 3) h17I rfl rfl (by omega) (by omega)
      refine pw_getI2 h20I E (c := 100) (k := 3) (pc' := 53) rfl rfl rfl rfl rfl rfl (fun hf21a hf21b => ?_)
      refine pw_ld E (pc' := 54) (st' := [pw_i 1, pw_i (pw_g h20 100 3)]) rfl (fun _ => rfl) ?_
      refine pw_sub E (pc' := 55) rfl rfl ?_
      refine pw_iret E rfl ?_
      have hl24 : ∀ j : Nat, pw_g h20 101 j = pw_g h11 101 j := fun j => (((by rw [← h20w]; exact pw_g_ne (by omega) : pw_g h20 101 j = pw_g h17 101 j)).trans (by rw [← h17w]; exact pw_g_ne (by omega) : pw_g h17 101 j = pw_g h14 101 j)).trans (by rw [← h14w]; exact pw_g_ne (by omega) : pw_g h14 101 j = pw_g h11 101 j)
      have hl25 : ∀ j : Nat, pw_g h 101 j = pw_g h 101 j := fun j => rfl
      have hu23i : (pw_g h 100 3).toNat = (pw_g h 100 3).toNat := by omega
      have hu23a : pw_g h11 101 ((pw_g h 100 3).toNat) = su := by rw [← h11w]; exact pw_g_eqA I rfl (by omega) (by omega) (by omega)
      have hu23b : ∀ j : Nat, j ≠ (pw_g h 100 3).toNat → pw_g h11 101 j = pw_g h 101 j := fun j hj => by rw [← h11w]; exact pw_g_ne (fun q => hj q.2.symm)
      rw [hu23i] at hu23a hu23b
      have hl27 : ∀ j : Nat, pw_g h20 102 j = pw_g h14 102 j := fun j => ((by rw [← h20w]; exact pw_g_ne (by omega) : pw_g h20 102 j = pw_g h17 102 j)).trans (by rw [← h17w]; exact pw_g_ne (by omega) : pw_g h17 102 j = pw_g h14 102 j)
      have hl28 : ∀ j : Nat, pw_g h11 102 j = pw_g h 102 j := fun j => (by rw [← h11w]; exact pw_g_ne (by omega) : pw_g h11 102 j = pw_g h 102 j)
      have hu26i : (pw_g h11 100 3).toNat = (pw_g h 100 3).toNat := by omega
      have hu26a : pw_g h14 102 ((pw_g h11 100 3).toNat) = n := by rw [← h14w]; exact pw_g_eqA h11I rfl (by omega) (by omega) (by omega)
      have hu26b : ∀ j : Nat, j ≠ (pw_g h11 100 3).toNat → pw_g h14 102 j = pw_g h11 102 j := fun j hj => by rw [← h14w]; exact pw_g_ne (fun q => hj q.2.symm)
      rw [hu26i] at hu26a hu26b
      have hl30 : ∀ j : Nat, pw_g h20 103 j = pw_g h17 103 j := fun j => (by rw [← h20w]; exact pw_g_ne (by omega) : pw_g h20 103 j = pw_g h17 103 j)
      have hl31 : ∀ j : Nat, pw_g h14 103 j = pw_g h 103 j := fun j => ((by rw [← h14w]; exact pw_g_ne (by omega) : pw_g h14 103 j = pw_g h11 103 j)).trans (by rw [← h11w]; exact pw_g_ne (by omega) : pw_g h11 103 j = pw_g h 103 j)
      have hu29i : (pw_g h14 100 3).toNat = (pw_g h 100 3).toNat := by omega
      have hu29a : pw_g h17 103 ((pw_g h14 100 3).toNat) = z := by rw [← h17w]; exact pw_g_eqA h14I rfl (by omega) (by omega) (by omega)
      have hu29b : ∀ j : Nat, j ≠ (pw_g h14 100 3).toNat → pw_g h17 103 j = pw_g h14 103 j := fun j hj => by rw [← h17w]; exact pw_g_ne (fun q => hj q.2.symm)
      rw [hu29i] at hu29a hu29b
      exact ⟨h20I, h20F, ⟨_, rfl, by omega, by omega, Or.inl ⟨by omega, by omega, by omega, ⟨(hl24 _).trans hu23a, fun j hj => (hl24 j).trans ((hu23b j hj).trans (hl25 j))⟩, ⟨(hl27 _).trans hu26a, fun j hj => (hl27 j).trans ((hu26b j hj).trans (hl28 j))⟩, ⟨(hl30 _).trans hu29a, fun j hj => (hl30 j).trans ((hu29b j hj).trans (hl31 j))⟩⟩⟩⟩
    · intro hc32
      change ¬ (x4 = (0 : Int)) at hc32
      exfalso; omega
set_option maxHeartbeats 4000000 in
theorem cm_151_o {X : List (Nat × List Value)} {d : Nat} {h : pm_H} (hd : 3 ≤ d) (I : pw_I h) (su : Int) (hsu1 : (-2147483648) ≤ su) (hsu2 : su ≤ 2147483647) (n : Int) (hn1 : (-2147483648) ≤ n) (hn2 : n ≤ 2147483647) (z : Int) (hz1 : 0 ≤ z) (hz2 : z ≤ 1) : pw X d h 151 0 [some (.ref 16), some (pw_i su), some (pw_i n), some (pw_i z)] [] (fun h' v => pw_I h' ∧ pw_E [100, 101, 102, 103] h h' ∧ ∃ a : Int, v = .inl (some (pw_i a)) ∧ (-2147483648) ≤ a ∧ a ≤ 2147483647 ∧ ((((-9999) ≤ su ∧ su ≤ 9999 ∧ 1 ≤ n ∧ n ≤ 999 ∧ pw_g h 100 3 < 20) ∧ a = pw_g h 100 3 ∧ pw_g h' 100 3 = pw_g h 100 3 + 1 ∧ pw_up h h' 101 (pw_g h 100 3) (su) ∧ pw_up h h' 102 (pw_g h 100 3) (n) ∧ pw_up h h' 103 (pw_g h 100 3) (z)) ∨ (¬ ((-9999) ≤ su ∧ su ≤ 9999 ∧ 1 ≤ n ∧ n ≤ 999 ∧ pw_g h 100 3 < 20) ∧ a = -1 ∧ pw_g h' 100 3 = pw_g h 100 3 ∧ pw_sm h h' 101 ∧ pw_sm h h' 102 ∧ pw_sm h h' 103))) := by
  have E : pm_ent 151 = some (4, 4, 11, 0, pmc_151) := rfl
  have E0 : pw_E [100, 101, 102, 103] h h := pw_E.rf _ _
  refine pw_ld E (pc' := 1) (st' := [pw_i su]) rfl (fun _ => rfl) ?_
  refine pw_sip E (pc' := 4) rfl rfl (by decide) ?_
  refine pw_sip E (pc' := 7) rfl rfl (by decide) ?_
  refine pw_call (m' := 121) (As := [pw_i su, pw_i ((-9999)), pw_i 9999]) (rest := []) (ls'' := [some (pw_i su), some (pw_i ((-9999))), some (pw_i 9999)]) (Nat.le_trans (by decide) hd) E rfl (fun _ => pw_iS rfl rfl rfl) (rfl : pm_ent 121 = some (3, 3, 11, 1, pmc_121)) rfl rfl (cm_121 (pw_dp hd (by decide)) I (su) (by omega) (by omega) ((-9999)) (by omega) (by omega) (9999) (by omega) (by omega)) ?_
  rintro u2 v1 ⟨rfl, x3, rfl, hx3a, hx3b, hx3r⟩
  refine ⟨_, rfl, ?_⟩
  show pw X d h 151 10 [some (.ref 16), some (pw_i su), some (pw_i n), some (pw_i z)] [pw_i x3] _
  change (x3 = 1 ∧ (-9999) ≤ su ∧ su ≤ 9999) ∨ (x3 = 0 ∧ ¬ ((-9999) ≤ su ∧ su ≤ 9999)) at hx3r
  rcases (by omega : x3 = 1 ∨ x3 = 0) with hb4 | hb4
  · skip
    refine pw_if E (pc' := 34) rfl (by decide) (by omega) (by omega) ?_ ?_
    · intro hc5
      change x3 = (0 : Int) at hc5
      exfalso; omega
    · intro hc6
      change ¬ (x3 = (0 : Int)) at hc6
      refine pw_ld E (pc' := 14) (st' := [pw_i n]) rfl (fun _ => rfl) ?_
      refine pw_ld E (pc' := 15) (st' := [pw_i 1, pw_i n]) rfl (fun _ => rfl) ?_
      refine pw_sip E (pc' := 18) rfl rfl (by decide) ?_
      refine pw_call (m' := 121) (As := [pw_i n, pw_i 1, pw_i 999]) (rest := []) (ls'' := [some (pw_i n), some (pw_i 1), some (pw_i 999)]) (Nat.le_trans (by decide) hd) E rfl (fun _ => pw_iS rfl rfl rfl) (rfl : pm_ent 121 = some (3, 3, 11, 1, pmc_121)) rfl rfl (cm_121 (pw_dp hd (by decide)) I (n) (by omega) (by omega) (1) (by omega) (by omega) (999) (by omega) (by omega)) ?_
      rintro u8 v7 ⟨rfl, x9, rfl, hx9a, hx9b, hx9r⟩
      refine ⟨_, rfl, ?_⟩
      show pw X d h 151 21 [some (.ref 16), some (pw_i su), some (pw_i n), some (pw_i z)] [pw_i x9] _
      change (x9 = 1 ∧ 1 ≤ n ∧ n ≤ 999) ∨ (x9 = 0 ∧ ¬ (1 ≤ n ∧ n ≤ 999)) at hx9r
      rcases (by omega : x9 = 1 ∨ x9 = 0) with hb10 | hb10
      · skip
        refine pw_if E (pc' := 34) rfl (by decide) (by omega) (by omega) ?_ ?_
        · intro hc11
          change x9 = (0 : Int) at hc11
          exfalso; omega
        · intro hc12
          change ¬ (x9 = (0 : Int)) at hc12
          refine pw_ld E (pc' := 25) (st' := [.ref 16]) rfl (fun _ => rfl) ?_
          refine pw_getR (b := 116) I E (c := 0) (k := 18) (pc' := 28) rfl rfl rfl rfl rfl rfl rfl ?_
          obtain ⟨f13l, f13h, -⟩ := pw_obj (c := 100) I rfl
          refine pw_call (m' := 36) (As := [.ref 116]) (rest := []) (ls'' := [some (.ref 116)]) (Nat.le_trans (by decide) hd) E rfl (fun _ => pw_iV rfl rfl rfl rfl (pw_cellI f13h rfl)) (rfl : pm_ent 36 = some (1, 1, 4, 1, pmc_36)) rfl rfl (cm_36 (pw_dp hd (by decide)) I ) ?_
          rintro u15 v14 ⟨rfl, x16, rfl, hx16a, hx16b, hx16r⟩
          refine ⟨_, rfl, ?_⟩
          show pw X d h 151 31 [some (.ref 16), some (pw_i su), some (pw_i n), some (pw_i z)] [pw_i x16] _
          change (x16 = 1 ∧ 20 ≤ pw_g h 100 3) ∨ (x16 = 0 ∧ pw_g h 100 3 < 20) at hx16r
          rcases (by omega : x16 = 1 ∨ x16 = 0) with hb17 | hb17
          · skip
            refine pw_if E (pc' := 36) rfl (by decide) (by omega) (by omega) ?_ ?_
            · intro hc18
              change x16 = (0 : Int) at hc18
              exfalso; omega
            · intro hc19
              change ¬ (x16 = (0 : Int)) at hc19
              refine pw_ld E (pc' := 35) (st' := [pw_i ((-1))]) rfl (fun _ => rfl) ?_
              refine pw_iret E rfl ?_
              exact ⟨I, E0, ⟨_, rfl, by omega, by omega, Or.inr ⟨by omega, rfl, rfl, fun _ => rfl, fun _ => rfl, fun _ => rfl⟩⟩⟩
          · skip
            refine pw_if E (pc' := 36) rfl (by decide) (by omega) (by omega) ?_ ?_
            · intro hc21
              change x16 = (0 : Int) at hc21
              refine pw_ld E (pc' := 37) (st' := [.ref 16]) rfl (fun _ => rfl) ?_
              refine pw_getR (b := 116) I E (c := 0) (k := 18) (pc' := 40) rfl rfl rfl rfl rfl rfl rfl ?_
              refine pw_ld E (pc' := 41) (st' := [pw_i su, .ref 116]) rfl (fun _ => rfl) ?_
              refine pw_ld E (pc' := 42) (st' := [pw_i n, pw_i su, .ref 116]) rfl (fun _ => rfl) ?_
              refine pw_ld E (pc' := 43) (st' := [pw_i z, pw_i n, pw_i su, .ref 116]) rfl (fun _ => rfl) ?_
              obtain ⟨f22l, f22h, -⟩ := pw_obj (c := 100) I rfl
              refine pw_call (m' := 37) (As := [.ref 116, pw_i su, pw_i n, pw_i z]) (rest := []) (ls'' := [some (.ref 116), some (pw_i su), some (pw_i n), some (pw_i z)]) (Nat.le_trans (by decide) hd) E rfl (fun _ => pw_iV rfl rfl rfl rfl (pw_cellI f22h rfl)) (rfl : pm_ent 37 = some (4, 4, 4, 0, pmc_37)) rfl rfl (cm_37_o (pw_dp hd (by decide)) I (su) (by omega) (by omega) (n) (by omega) (by omega) (z) (by omega) (by omega)) ?_
              rintro h23 v24 ⟨h23I, h23E, x25, rfl, hx25a, hx25b, hx25r⟩
              refine ⟨_, rfl, ?_⟩
              have h23F := E0.tr (h23E.wk (W' := [100, 101, 102, 103]) (by first | rfl | simp))
              show pw X d h23 151 46 [some (.ref 16), some (pw_i su), some (pw_i n), some (pw_i z)] [pw_i x25] _
              change (pw_g h 100 3 < 20 ∧ x25 = pw_g h 100 3 ∧ pw_g h23 100 3 = pw_g h 100 3 + 1 ∧ pw_up h h23 101 (pw_g h 100 3) (su) ∧ pw_up h h23 102 (pw_g h 100 3) (n) ∧ pw_up h h23 103 (pw_g h 100 3) (z)) ∨ (20 ≤ pw_g h 100 3 ∧ x25 = -1 ∧ pw_g h23 100 3 = pw_g h 100 3 ∧ pw_sm h h23 101 ∧ pw_sm h h23 102 ∧ pw_sm h h23 103) at hx25r
              refine pw_iret E rfl ?_
              exact ⟨h23I, h23F, ⟨_, rfl, by omega, by omega, Or.inl ⟨by omega, (hx25r.resolve_right (fun e => by omega)).2⟩⟩⟩
            · intro hc26
              change ¬ (x16 = (0 : Int)) at hc26
              exfalso; omega
      · skip
        refine pw_if E (pc' := 34) rfl (by decide) (by omega) (by omega) ?_ ?_
        · intro hc28
          change x9 = (0 : Int) at hc28
          refine pw_ld E (pc' := 35) (st' := [pw_i ((-1))]) rfl (fun _ => rfl) ?_
          refine pw_iret E rfl ?_
          exact ⟨I, E0, ⟨_, rfl, by omega, by omega, Or.inr ⟨by omega, rfl, rfl, fun _ => rfl, fun _ => rfl, fun _ => rfl⟩⟩⟩
        · intro hc29
          change ¬ (x9 = (0 : Int)) at hc29
          exfalso; omega
  · skip
    refine pw_if E (pc' := 34) rfl (by decide) (by omega) (by omega) ?_ ?_
    · intro hc31
      change x3 = (0 : Int) at hc31
      refine pw_ld E (pc' := 35) (st' := [pw_i ((-1))]) rfl (fun _ => rfl) ?_
      refine pw_iret E rfl ?_
      exact ⟨I, E0, ⟨_, rfl, by omega, by omega, Or.inr ⟨by omega, rfl, rfl, fun _ => rfl, fun _ => rfl, fun _ => rfl⟩⟩⟩
    · intro hc32
      change ¬ (x3 = (0 : Int)) at hc32
      exfalso; omega
set_option maxHeartbeats 4000000 in
theorem cm_273_o {X : List (Nat × List Value)} {d : Nat} {h : pm_H} (hd : 2 ≤ d) (I : pw_I h) (su : Int) (hsu1 : (-2147483648) ≤ su) (hsu2 : su ≤ 2147483647) (n : Int) (hn1 : (-2147483648) ≤ n) (hn2 : n ≤ 2147483647) (z : Int) (hz1 : 0 ≤ z) (hz2 : z ≤ 1) : pw X d h 273 0 [some (.ref 141), some (pw_i su), some (pw_i n), some (pw_i z)] [] (fun h' v => pw_I h' ∧ pw_E [125, 154, 155, 156, 1041] h h' ∧ ∃ a : Int, v = .inl (some (pw_i a)) ∧ (-2147483648) ≤ a ∧ a ≤ 2147483647 ∧ ((((-9999) ≤ su ∧ su ≤ 9999 ∧ 1 ≤ n ∧ n ≤ 999 ∧ pw_g h 125 41 < 20) ∧ a = pw_g h 125 41 ∧ pw_g h' 125 41 = pw_g h 125 41 + 1 ∧ pw_up h h' 154 (pw_g h 125 41) (su) ∧ pw_up h h' 155 (pw_g h 125 41) (n) ∧ pw_up h h' 156 (pw_g h 125 41) (z)) ∨ (¬ ((-9999) ≤ su ∧ su ≤ 9999 ∧ 1 ≤ n ∧ n ≤ 999 ∧ pw_g h 125 41 < 20) ∧ a = -1 ∧ pw_g h' 125 41 = pw_g h 125 41 ∧ pw_sm h h' 154 ∧ pw_sm h h' 155 ∧ pw_sm h h' 156))) := by
  have E : pm_ent 273 = some (4, 4, 12, 0, pmc_273) := rfl
  have E0 : pw_E [125, 154, 155, 156, 1041] h h := pw_E.rf _ _
  refine pw_ld E (pc' := 1) (st' := [.ref 141]) rfl (fun _ => rfl) ?_
  refine pw_ld E (pc' := 2) (st' := [pw_i 0, .ref 141]) rfl (fun _ => rfl) ?_
  refine pw_putI I E (c := 125) (k := 0) (pc' := 5) rfl rfl rfl rfl (by omega) (by omega) (by omega) (by omega) rfl rfl ?_
  intro h1I h1E
  generalize h1w : pw_w h 125 0 (pw_i 0) = h1 at h1I h1E ⊢
  have h1F := E0.tr (h1E.wk (W' := [125, 154, 155, 156, 1041]) (by first | rfl | simp))
  refine pw_ld E (pc' := 6) (st' := [pw_i su]) rfl (fun _ => rfl) ?_
  refine pw_sip E (pc' := 9) rfl rfl (by decide) ?_
  refine pw_sip E (pc' := 12) rfl rfl (by decide) ?_
  refine pw_call (m' := 202) (As := [pw_i su, pw_i ((-9999)), pw_i 9999]) (rest := []) (ls'' := [some (pw_i su), some (pw_i ((-9999))), some (pw_i 9999)]) (Nat.le_trans (by decide) hd) E rfl (fun _ => pw_iS rfl rfl rfl) (rfl : pm_ent 202 = some (3, 3, 12, 1, pmc_202)) rfl rfl (cm_202 (pw_dp hd (by decide)) h1I (su) (by omega) (by omega) ((-9999)) (by omega) (by omega) (9999) (by omega) (by omega)) ?_
  rintro u3 v2 ⟨rfl, x4, rfl, hx4a, hx4b, hx4r⟩
  refine ⟨_, rfl, ?_⟩
  show pw X d h1 273 15 [some (.ref 141), some (pw_i su), some (pw_i n), some (pw_i z)] [pw_i x4] _
  change (x4 = 1 ∧ (-9999) ≤ su ∧ su ≤ 9999) ∨ (x4 = 0 ∧ ¬ ((-9999) ≤ su ∧ su ≤ 9999)) at hx4r
  rcases (by omega : x4 = 1 ∨ x4 = 0) with hb5 | hb5
  · skip
    refine pw_if E (pc' := 38) rfl (by decide) (by omega) (by omega) ?_ ?_
    · intro hc6
      change x4 = (0 : Int) at hc6
      exfalso; omega
    · intro hc7
      change ¬ (x4 = (0 : Int)) at hc7
      refine pw_ld E (pc' := 19) (st' := [pw_i n]) rfl (fun _ => rfl) ?_
      refine pw_ld E (pc' := 20) (st' := [pw_i 1, pw_i n]) rfl (fun _ => rfl) ?_
      refine pw_sip E (pc' := 23) rfl rfl (by decide) ?_
      refine pw_call (m' := 202) (As := [pw_i n, pw_i 1, pw_i 999]) (rest := []) (ls'' := [some (pw_i n), some (pw_i 1), some (pw_i 999)]) (Nat.le_trans (by decide) hd) E rfl (fun _ => pw_iS rfl rfl rfl) (rfl : pm_ent 202 = some (3, 3, 12, 1, pmc_202)) rfl rfl (cm_202 (pw_dp hd (by decide)) h1I (n) (by omega) (by omega) (1) (by omega) (by omega) (999) (by omega) (by omega)) ?_
      rintro u9 v8 ⟨rfl, x10, rfl, hx10a, hx10b, hx10r⟩
      refine ⟨_, rfl, ?_⟩
      show pw X d h1 273 26 [some (.ref 141), some (pw_i su), some (pw_i n), some (pw_i z)] [pw_i x10] _
      change (x10 = 1 ∧ 1 ≤ n ∧ n ≤ 999) ∨ (x10 = 0 ∧ ¬ (1 ≤ n ∧ n ≤ 999)) at hx10r
      rcases (by omega : x10 = 1 ∨ x10 = 0) with hb11 | hb11
      · skip
        refine pw_if E (pc' := 38) rfl (by decide) (by omega) (by omega) ?_ ?_
        · intro hc12
          change x10 = (0 : Int) at hc12
          exfalso; omega
        · intro hc13
          change ¬ (x10 = (0 : Int)) at hc13
          refine pw_ld E (pc' := 30) (st' := [.ref 141]) rfl (fun _ => rfl) ?_
          have he15 : pw_g h1 125 41 = pw_g h 125 41 := by rw [← h1w]; exact pw_g_ne (by omega)
          refine pw_getI2 h1I E (c := 125) (k := 41) (pc' := 33) rfl rfl rfl rfl rfl rfl (fun hf14a hf14b => ?_)
          refine pw_bip E (pc' := 35) rfl rfl (by decide) ?_
          refine pw_if2 E (pc' := 40) rfl (by decide) (by omega) (by omega) (by decide) (by decide) ?_ ?_
          · intro hc16
            change pw_g h1 125 41 ≠ (20 : Int) at hc16
            refine pw_ld E (pc' := 41) (st' := [.ref 141]) rfl (fun _ => rfl) ?_
            refine pw_getR (b := 170) h1I E (c := 125) (k := 42) (pc' := 44) rfl rfl rfl rfl rfl rfl rfl ?_
            refine pw_ld E (pc' := 45) (st' := [.ref 141, .ref 170]) rfl (fun _ => rfl) ?_
            refine pw_getI2 h1I E (c := 125) (k := 41) (pc' := 48) rfl rfl rfl rfl rfl rfl (fun hf17a hf17b => ?_)
            refine pw_ld E (pc' := 49) (st' := [pw_i su, pw_i (pw_g h1 125 41), .ref 170]) rfl (fun _ => rfl) ?_
            refine pw_ast0 h1I E (c := 154) (pc' := 50) rfl rfl rfl (by decide) rfl (by decide) (by omega) (by omega) rfl (by omega) (by omega) (by omega) (by omega) rfl ?_
            intro h18I h18E
            generalize h18w : pw_w h1 154 ((pw_g h1 125 41).toNat) (pw_i su) = h18 at h18I h18E ⊢
            have h18F := h1F.tr (h18E.wk (W' := [125, 154, 155, 156, 1041]) (by first | rfl | simp))
            refine pw_ld E (pc' := 51) (st' := [.ref 141]) rfl (fun _ => rfl) ?_
            refine pw_getR (b := 171) h18I E (c := 125) (k := 43) (pc' := 54) rfl rfl rfl rfl rfl rfl rfl ?_
            refine pw_ld E (pc' := 55) (st' := [.ref 141, .ref 171]) rfl (fun _ => rfl) ?_
            have he20 : pw_g h18 125 41 = pw_g h1 125 41 := by rw [← h18w]; exact pw_g_ne (by omega)
            refine pw_getI2 h18I E (c := 125) (k := 41) (pc' := 58) rfl rfl rfl rfl rfl rfl (fun hf19a hf19b => ?_)
            refine pw_ld E (pc' := 59) (st' := [pw_i n, pw_i (pw_g h18 125 41), .ref 171]) rfl (fun _ => rfl) ?_
            refine pw_ast0 h18I E (c := 155) (pc' := 60) rfl rfl rfl (by decide) rfl (by decide) (by omega) (by omega) rfl (by omega) (by omega) (by omega) (by omega) rfl ?_
            intro h21I h21E
            generalize h21w : pw_w h18 155 ((pw_g h18 125 41).toNat) (pw_i n) = h21 at h21I h21E ⊢
            have h21F := h18F.tr (h21E.wk (W' := [125, 154, 155, 156, 1041]) (by first | rfl | simp))
            refine pw_ld E (pc' := 61) (st' := [.ref 141]) rfl (fun _ => rfl) ?_
            refine pw_getR (b := 172) h21I E (c := 125) (k := 44) (pc' := 64) rfl rfl rfl rfl rfl rfl rfl ?_
            refine pw_ld E (pc' := 65) (st' := [.ref 141, .ref 172]) rfl (fun _ => rfl) ?_
            have he23 : pw_g h21 125 41 = pw_g h18 125 41 := by rw [← h21w]; exact pw_g_ne (by omega)
            refine pw_getI2 h21I E (c := 125) (k := 41) (pc' := 68) rfl rfl rfl rfl rfl rfl (fun hf22a hf22b => ?_)
            refine pw_ld E (pc' := 69) (st' := [pw_i z, pw_i (pw_g h21 125 41), .ref 172]) rfl (fun _ => rfl) ?_
            refine pw_ast0 h21I E (c := 156) (pc' := 70) rfl rfl rfl (by decide) rfl (by decide) (by omega) (by omega) (pw_b1 (by omega) (by omega)) (by omega) (by omega) (by omega) (by omega) rfl ?_
            intro h24I h24E
            generalize h24w : pw_w h21 156 ((pw_g h21 125 41).toNat) (pw_i z) = h24 at h24I h24E ⊢
            have h24F := h21F.tr (h24E.wk (W' := [125, 154, 155, 156, 1041]) (by first | rfl | simp))
            refine pw_ld E (pc' := 71) (st' := [.ref 141]) rfl (fun _ => rfl) ?_
            refine pw_ld E (pc' := 72) (st' := [.ref 141, .ref 141]) rfl (fun _ => rfl) ?_
            have he26 : pw_g h24 125 41 = pw_g h21 125 41 := by rw [← h24w]; exact pw_g_ne (by omega)
            refine pw_getI2 h24I E (c := 125) (k := 41) (pc' := 75) rfl rfl rfl rfl rfl rfl (fun hf25a hf25b => ?_)
            refine pw_ld E (pc' := 76) (st' := [pw_i 1, pw_i (pw_g h24 125 41), .ref 141]) rfl (fun _ => rfl) ?_
            refine pw_add E (pc' := 77) rfl rfl ?_
            refine pw_putP h24I E (k := 41) (pc' := 80) rfl rfl rfl rfl (by omega) (by omega) (by omega) (by omega) rfl rfl ?_
            intro h27I h27E
            generalize h27w : pw_w h24 125 41 (pw_i ((pw_g h24 125 41) + 1)) = h27 at h27I h27E ⊢
            have h27F := h24F.tr (h27E.wk (W' := [125, 154, 155, 156, 1041]) (by first | rfl | simp))
            refine pw_ld E (pc' := 81) (st' := [.ref 141]) rfl (fun _ => rfl) ?_
            have he29 : pw_g h27 125 41 = (pw_g h24 125 41) + 1 := by rw [← h27w]; exact pw_g_eq (c := 125) (k := 41) h24I rfl rfl (by omega) (by omega)
            refine pw_getI2 h27I E (c := 125) (k := 41) (pc' := 84) rfl rfl rfl rfl rfl rfl (fun hf28a hf28b => ?_)
            refine pw_ld E (pc' := 85) (st' := [pw_i 1, pw_i (pw_g h27 125 41)]) rfl (fun _ => rfl) ?_
            refine pw_sub E (pc' := 86) rfl rfl ?_
            refine pw_iret E rfl ?_
            have hl31 : ∀ j : Nat, pw_g h27 154 j = pw_g h18 154 j := fun j => (((by rw [← h27w]; exact pw_g_ne (by omega) : pw_g h27 154 j = pw_g h24 154 j)).trans (by rw [← h24w]; exact pw_g_ne (by omega) : pw_g h24 154 j = pw_g h21 154 j)).trans (by rw [← h21w]; exact pw_g_ne (by omega) : pw_g h21 154 j = pw_g h18 154 j)
            have hl32 : ∀ j : Nat, pw_g h1 154 j = pw_g h 154 j := fun j => (by rw [← h1w]; exact pw_g_ne (by omega) : pw_g h1 154 j = pw_g h 154 j)
            have hu30i : (pw_g h1 125 41).toNat = (pw_g h 125 41).toNat := by omega
            have hu30a : pw_g h18 154 ((pw_g h1 125 41).toNat) = su := by rw [← h18w]; exact pw_g_eqA h1I rfl (by omega) (by omega) (by omega)
            have hu30b : ∀ j : Nat, j ≠ (pw_g h1 125 41).toNat → pw_g h18 154 j = pw_g h1 154 j := fun j hj => by rw [← h18w]; exact pw_g_ne (fun q => hj q.2.symm)
            rw [hu30i] at hu30a hu30b
            have hl34 : ∀ j : Nat, pw_g h27 155 j = pw_g h21 155 j := fun j => ((by rw [← h27w]; exact pw_g_ne (by omega) : pw_g h27 155 j = pw_g h24 155 j)).trans (by rw [← h24w]; exact pw_g_ne (by omega) : pw_g h24 155 j = pw_g h21 155 j)
            have hl35 : ∀ j : Nat, pw_g h18 155 j = pw_g h 155 j := fun j => ((by rw [← h18w]; exact pw_g_ne (by omega) : pw_g h18 155 j = pw_g h1 155 j)).trans (by rw [← h1w]; exact pw_g_ne (by omega) : pw_g h1 155 j = pw_g h 155 j)
            have hu33i : (pw_g h18 125 41).toNat = (pw_g h 125 41).toNat := by omega
            have hu33a : pw_g h21 155 ((pw_g h18 125 41).toNat) = n := by rw [← h21w]; exact pw_g_eqA h18I rfl (by omega) (by omega) (by omega)
            have hu33b : ∀ j : Nat, j ≠ (pw_g h18 125 41).toNat → pw_g h21 155 j = pw_g h18 155 j := fun j hj => by rw [← h21w]; exact pw_g_ne (fun q => hj q.2.symm)
            rw [hu33i] at hu33a hu33b
            have hl37 : ∀ j : Nat, pw_g h27 156 j = pw_g h24 156 j := fun j => (by rw [← h27w]; exact pw_g_ne (by omega) : pw_g h27 156 j = pw_g h24 156 j)
            have hl38 : ∀ j : Nat, pw_g h21 156 j = pw_g h 156 j := fun j => (((by rw [← h21w]; exact pw_g_ne (by omega) : pw_g h21 156 j = pw_g h18 156 j)).trans (by rw [← h18w]; exact pw_g_ne (by omega) : pw_g h18 156 j = pw_g h1 156 j)).trans (by rw [← h1w]; exact pw_g_ne (by omega) : pw_g h1 156 j = pw_g h 156 j)
            have hu36i : (pw_g h21 125 41).toNat = (pw_g h 125 41).toNat := by omega
            have hu36a : pw_g h24 156 ((pw_g h21 125 41).toNat) = z := by rw [← h24w]; exact pw_g_eqA h21I rfl (by omega) (by omega) (by omega)
            have hu36b : ∀ j : Nat, j ≠ (pw_g h21 125 41).toNat → pw_g h24 156 j = pw_g h21 156 j := fun j hj => by rw [← h24w]; exact pw_g_ne (fun q => hj q.2.symm)
            rw [hu36i] at hu36a hu36b
            exact ⟨h27I, h27F, ⟨_, rfl, by omega, by omega, Or.inl ⟨by omega, by omega, by omega, ⟨(hl31 _).trans hu30a, fun j hj => (hl31 j).trans ((hu30b j hj).trans (hl32 j))⟩, ⟨(hl34 _).trans hu33a, fun j hj => (hl34 j).trans ((hu33b j hj).trans (hl35 j))⟩, ⟨(hl37 _).trans hu36a, fun j hj => (hl37 j).trans ((hu36b j hj).trans (hl38 j))⟩⟩⟩⟩
          · intro hc39
            change ¬ (pw_g h1 125 41 ≠ (20 : Int)) at hc39
            refine pw_ld E (pc' := 39) (st' := [pw_i ((-1))]) rfl (fun _ => rfl) ?_
            refine pw_iret E rfl ?_
            have hl40 : ∀ j : Nat, pw_g h1 154 j = pw_g h 154 j := fun j => (by rw [← h1w]; exact pw_g_ne (by omega) : pw_g h1 154 j = pw_g h 154 j)
            have hl41 : ∀ j : Nat, pw_g h1 155 j = pw_g h 155 j := fun j => (by rw [← h1w]; exact pw_g_ne (by omega) : pw_g h1 155 j = pw_g h 155 j)
            have hl42 : ∀ j : Nat, pw_g h1 156 j = pw_g h 156 j := fun j => (by rw [← h1w]; exact pw_g_ne (by omega) : pw_g h1 156 j = pw_g h 156 j)
            exact ⟨h1I, h1F, ⟨_, rfl, by omega, by omega, Or.inr ⟨by omega, rfl, by omega, hl40, hl41, hl42⟩⟩⟩
      · skip
        refine pw_if E (pc' := 38) rfl (by decide) (by omega) (by omega) ?_ ?_
        · intro hc44
          change x10 = (0 : Int) at hc44
          refine pw_ld E (pc' := 39) (st' := [pw_i ((-1))]) rfl (fun _ => rfl) ?_
          refine pw_iret E rfl ?_
          have he45 : pw_g h1 125 41 = pw_g h 125 41 := by rw [← h1w]; exact pw_g_ne (by omega)
          have hl46 : ∀ j : Nat, pw_g h1 154 j = pw_g h 154 j := fun j => (by rw [← h1w]; exact pw_g_ne (by omega) : pw_g h1 154 j = pw_g h 154 j)
          have hl47 : ∀ j : Nat, pw_g h1 155 j = pw_g h 155 j := fun j => (by rw [← h1w]; exact pw_g_ne (by omega) : pw_g h1 155 j = pw_g h 155 j)
          have hl48 : ∀ j : Nat, pw_g h1 156 j = pw_g h 156 j := fun j => (by rw [← h1w]; exact pw_g_ne (by omega) : pw_g h1 156 j = pw_g h 156 j)
          exact ⟨h1I, h1F, ⟨_, rfl, by omega, by omega, Or.inr ⟨by omega, rfl, by omega, hl46, hl47, hl48⟩⟩⟩
        · intro hc49
          change ¬ (x10 = (0 : Int)) at hc49
          exfalso; omega
  · skip
    refine pw_if E (pc' := 38) rfl (by decide) (by omega) (by omega) ?_ ?_
    · intro hc51
      change x4 = (0 : Int) at hc51
      refine pw_ld E (pc' := 39) (st' := [pw_i ((-1))]) rfl (fun _ => rfl) ?_
      refine pw_iret E rfl ?_
      have he52 : pw_g h1 125 41 = pw_g h 125 41 := by rw [← h1w]; exact pw_g_ne (by omega)
      have hl53 : ∀ j : Nat, pw_g h1 154 j = pw_g h 154 j := fun j => (by rw [← h1w]; exact pw_g_ne (by omega) : pw_g h1 154 j = pw_g h 154 j)
      have hl54 : ∀ j : Nat, pw_g h1 155 j = pw_g h 155 j := fun j => (by rw [← h1w]; exact pw_g_ne (by omega) : pw_g h1 155 j = pw_g h 155 j)
      have hl55 : ∀ j : Nat, pw_g h1 156 j = pw_g h 156 j := fun j => (by rw [← h1w]; exact pw_g_ne (by omega) : pw_g h1 156 j = pw_g h 156 j)
      exact ⟨h1I, h1F, ⟨_, rfl, by omega, by omega, Or.inr ⟨by omega, rfl, by omega, hl53, hl54, hl55⟩⟩⟩
    · intro hc56
      change ¬ (x4 = (0 : Int)) at hc56
      exfalso; omega
end
section
/-! the greatest common divisor and fractions, exactly (printed by wip/tool/mgcd.py) -/
theorem pw_mulS {a b A B : Int} (h1 : -A ≤ a) (h2 : a ≤ A) (h3 : 0 ≤ b) (h4 : b ≤ B) : -(A * B) ≤ a * b ∧ a * b ≤ A * B := by
  have l1 := Int.mul_le_mul_of_nonneg_right h1 h3
  have l2 := Int.mul_le_mul_of_nonneg_right h2 h3
  have l3 := Int.mul_le_mul_of_nonneg_left (c := A) h4 (by omega)
  rw [Int.neg_mul] at l1
  omega
section Pg
variable {X : List (Nat × List Value)} {d : Nat} {h : pm_H} {m pc pc' len na nl own rt : Nat} {C : pm_T (Instr × Nat)} {ls : pm_L} {r : List Value} {Q : pm_H → (Option Value ⊕ Unit) → Prop}
end Pg
end
section
/-! the sides, exactly (printed by wip/tool/msides.py) -/
/-- how many of a side, and the sum of their changes -/
def pv_N (sd : Nat → Int) (s : Int) : Nat → Int
  | 0 => 0
  | k + 1 => pv_N sd s k + (if sd k = s then 1 else 0)
def pv_S (sd ch : Nat → Int) (s : Int) : Nat → Int
  | 0 => 0
  | k + 1 => pv_S sd ch s k + (if sd k = s then ch k else 0)
theorem pv_Ns {sd : Nat → Int} {s k : Int} (hk : 0 ≤ k) : (sd k.toNat = s → pv_N sd s (k + 1).toNat = pv_N sd s k.toNat + 1) ∧ (¬ (sd k.toNat = s) → pv_N sd s (k + 1).toNat = pv_N sd s k.toNat) := by
  rw [show (k + 1).toNat = k.toNat + 1 by omega]
  have e : pv_N sd s (k.toNat + 1) = pv_N sd s k.toNat + (if sd k.toNat = s then 1 else 0) := rfl
  rw [e]
  exact ⟨fun q => by rw [if_pos q], fun q => by rw [if_neg q]; omega⟩
theorem pv_Ss {sd ch : Nat → Int} {s k : Int} (hk : 0 ≤ k) : (sd k.toNat = s → pv_S sd ch s (k + 1).toNat = pv_S sd ch s k.toNat + ch k.toNat) ∧ (¬ (sd k.toNat = s) → pv_S sd ch s (k + 1).toNat = pv_S sd ch s k.toNat) := by
  rw [show (k + 1).toNat = k.toNat + 1 by omega]
  have e : pv_S sd ch s (k.toNat + 1) = pv_S sd ch s k.toNat + (if sd k.toNat = s then ch k.toNat else 0) := rfl
  rw [e]
  exact ⟨fun q => by rw [if_pos q], fun q => by rw [if_neg q]; omega⟩
theorem pv_NB {sd : Nat → Int} {s : Int} (n : Nat) : 0 ≤ pv_N sd s n ∧ pv_N sd s n ≤ n := by
  induction n with
  | zero => exact ⟨Int.le_refl _, Int.le_refl _⟩
  | succ n ih =>
    have e : pv_N sd s (n + 1) = pv_N sd s n + (if sd n = s then 1 else 0) := rfl
    rw [e]
    split <;> omega
theorem pv_cg {sd sd' ch ch' : Nat → Int} {s : Int} : ∀ n : Nat, (∀ k : Nat, k < n → sd k = sd' k ∧ (sd k = s → ch k = ch' k)) → pv_N sd s n = pv_N sd' s n ∧ pv_S sd ch s n = pv_S sd' ch' s n := by
  intro n
  induction n with
  | zero => intro _; exact ⟨rfl, rfl⟩
  | succ n ih =>
    intro H
    obtain ⟨i1, i2⟩ := ih (fun k hk => H k (Nat.lt_succ_of_lt hk))
    obtain ⟨h1, h2⟩ := H n (Nat.lt_succ_self n)
    refine ⟨?_, ?_⟩
    · show pv_N sd s n + (if sd n = s then 1 else 0) = pv_N sd' s n + (if sd' n = s then 1 else 0)
      rw [i1, h1]
    · show pv_S sd ch s n + (if sd n = s then ch n else 0) = pv_S sd' ch' s n + (if sd' n = s then ch' n else 0)
      rw [i2, ← h1]
      by_cases hq : sd n = s
      · rw [h2 hq]
      · rw [if_neg hq, if_neg hq]
theorem pv_stp0 {sd ch : Nat → Int} {k : Int} (hk : 0 ≤ k) (hs : sd k.toNat = 0) : pv_N sd 0 (k + 1).toNat = pv_N sd 0 k.toNat + 1 ∧ pv_N sd 1 (k + 1).toNat = pv_N sd 1 k.toNat ∧ pv_S sd ch 0 (k + 1).toNat = pv_S sd ch 0 k.toNat + ch k.toNat ∧ pv_S sd ch 1 (k + 1).toNat = pv_S sd ch 1 k.toNat := ⟨(pv_Ns hk).1 hs, (pv_Ns hk).2 (by omega), (pv_Ss hk).1 hs, (pv_Ss hk).2 (by omega)⟩
theorem pv_stp1 {sd ch : Nat → Int} {k : Int} (hk : 0 ≤ k) (hs : sd k.toNat = 1) : pv_N sd 0 (k + 1).toNat = pv_N sd 0 k.toNat ∧ pv_N sd 1 (k + 1).toNat = pv_N sd 1 k.toNat + 1 ∧ pv_S sd ch 0 (k + 1).toNat = pv_S sd ch 0 k.toNat ∧ pv_S sd ch 1 (k + 1).toNat = pv_S sd ch 1 k.toNat + ch k.toNat := ⟨(pv_Ns hk).2 (by omega), (pv_Ns hk).1 hs, (pv_Ss hk).2 (by omega), (pv_Ss hk).1 hs⟩
theorem pv_stpm {sd ch : Nat → Int} {k : Int} (hk : 0 ≤ k) (hs : sd k.toNat = -1) : pv_N sd 0 (k + 1).toNat = pv_N sd 0 k.toNat ∧ pv_N sd 1 (k + 1).toNat = pv_N sd 1 k.toNat ∧ pv_S sd ch 0 (k + 1).toNat = pv_S sd ch 0 k.toNat ∧ pv_S sd ch 1 (k + 1).toNat = pv_S sd ch 1 k.toNat := ⟨(pv_Ns hk).2 (by omega), (pv_Ns hk).2 (by omega), (pv_Ss hk).2 (by omega), (pv_Ss hk).2 (by omega)⟩
/-- the difference of the means, as a fraction -/
def pv_U (sd ch : Nat → Int) : Int := pv_S sd ch 0 24 * pv_N sd 1 24 - pv_S sd ch 1 24 * pv_N sd 0 24
def pv_D (sd : Nat → Int) : Int := pv_N sd 0 24 * pv_N sd 1 24
def pv_OK (sd : Nat → Int) : Prop := 1 ≤ pv_N sd 0 24 ∧ 1 ≤ pv_N sd 1 24
theorem pv_Ucg {sd sd' ch ch' : Nat → Int} (H : ∀ k : Nat, k < 24 → sd k = sd' k ∧ (sd k ≠ -1 → ch k = ch' k)) : pv_U sd ch = pv_U sd' ch' ∧ pv_D sd = pv_D sd' ∧ (pv_OK sd ↔ pv_OK sd') ∧ pv_N sd 0 24 = pv_N sd' 0 24 ∧ pv_N sd 1 24 = pv_N sd' 1 24 := by
  obtain ⟨a1, a2⟩ := pv_cg (sd := sd) (sd' := sd') (ch := ch) (ch' := ch') (s := 0) 24 (fun k hk => ⟨(H k hk).1, fun e => (H k hk).2 (by omega)⟩)
  obtain ⟨b1, b2⟩ := pv_cg (sd := sd) (sd' := sd') (ch := ch) (ch' := ch') (s := 1) 24 (fun k hk => ⟨(H k hk).1, fun e => (H k hk).2 (by omega)⟩)
  unfold pv_U pv_D pv_OK
  rw [a1, a2, b1, b2]
  exact ⟨rfl, rfl, Iff.rfl, rfl, rfl⟩
/-- the sides are filled up to n -/
def pv_FL (g : pm_H) (sd ch : Nat → Int) (n : Int) : Prop := ∀ k : Nat, k < 24 → ((k : Int) < n → pw_g g 17 k = sd k ∧ (sd k ≠ -1 → pw_g g 18 k = ch k)) ∧ (n ≤ (k : Int) → pw_g g 17 k = -1)
theorem pv_FL.z {g : pm_H} {sd ch : Nat → Int} (H : ∀ j : Nat, j < 24 → pw_g g 17 j = -1) : pv_FL g sd ch 0 := fun k hk => ⟨fun q => absurd q (by omega), fun _ => H k hk⟩
theorem pv_FL.no {g : pm_H} {sd ch : Nat → Int} {n : Int} (H : pv_FL g sd ch n) (h0 : 0 ≤ n) (hs : sd n.toNat = -1) : pv_FL g sd ch (n + 1) := by
  intro k hk
  refine ⟨fun q => ?_, fun q => (H k hk).2 (by omega)⟩
  rcases (by omega : (k : Int) < n ∨ k = n.toNat) with e | e
  · exact (H k hk).1 e
  · have h1 := (H k hk).2 (by omega)
    rw [e] at h1 ⊢
    exact ⟨h1.trans hs.symm, fun z => absurd hs z⟩
/-- one left out -/
def pv_lo (sd : Nat → Int) (wo : Int) (k : Nat) : Int := if (k : Int) = wo then -1 else sd k
theorem pv_FL.lo {g g' : pm_H} {sd ch : Nat → Int} {wo : Int} (H : pv_FL g sd ch 24) (h0 : 0 ≤ wo) (u1 : pw_up g g' 17 wo (-1)) (u2 : ∀ j : Nat, pw_g g' 18 j = pw_g g 18 j) : pv_FL g' (pv_lo sd wo) ch 24 := by
  intro k hk
  refine ⟨fun _ => ?_, fun q => absurd q (by omega)⟩
  unfold pv_lo
  rcases (by omega : k = wo.toNat ∨ k ≠ wo.toNat) with e | e
  · rw [if_pos (by omega), e, u1.1]
    exact ⟨rfl, fun z => absurd rfl z⟩
  · rw [if_neg (by omega), u1.2 k e, u2 k]
    exact (H k hk).1 (by omega)
theorem pv_FL.eq {g : pm_H} {sd ch : Nat → Int} (H : pv_FL g sd ch 24) : pv_U (pw_g g 17) (pw_g g 18) = pv_U sd ch ∧ pv_D (pw_g g 17) = pv_D sd ∧ (pv_OK (pw_g g 17) ↔ pv_OK sd) ∧ pv_N (pw_g g 17) 0 24 = pv_N sd 0 24 ∧ pv_N (pw_g g 17) 1 24 = pv_N sd 1 24 := pv_Ucg (fun k hk => by
  obtain ⟨a, b⟩ := (H k hk).1 (by omega)
  exact ⟨a, fun q => b (by rw [← a]; exact q)⟩)
set_option maxHeartbeats 4000000 in
theorem cm_23_10s {X : List (Nat × List Value)} {d : Nat} {h : pm_H} (hd : 2 ≤ d) (I : pw_I h) (k : Int) (hk1 : 0 ≤ k) (hk2 : k ≤ 23) (b : Int) (hb1 : 0 ≤ b) (hb2 : b ≤ 11) (e : Int) (he1 : 0 ≤ e) (he2 : e ≤ 11) : pw X d h 23 0 [some (.ref 26), some (pw_i k), some (pw_i b), some (pw_i e)] [] (fun h' v => h = h' ∧ ∃ a : Int, v = .inl (some (pw_i a)) ∧ 0 ≤ a ∧ a ≤ 1 ∧ ((a = 1 ∧ pw_g h 11 (k * 12 + b).toNat ≠ -2 ∧ pw_g h 11 (k * 12 + e).toNat ≠ -2) ∨ (a = 0 ∧ ¬ (pw_g h 11 (k * 12 + b).toNat ≠ -2 ∧ pw_g h 11 (k * 12 + e).toNat ≠ -2)))) := by
  have E : pm_ent 23 = some (4, 4, 2, 1, pmc_23) := rfl
  refine pw_ld E (pc' := 1) (st' := [.ref 26]) rfl (fun _ => rfl) ?_
  refine pw_ld E (pc' := 2) (st' := [pw_i k, .ref 26]) rfl (fun _ => rfl) ?_
  refine pw_ld E (pc' := 3) (st' := [pw_i b, pw_i k, .ref 26]) rfl (fun _ => rfl) ?_
  obtain ⟨f1l, f1h, -⟩ := pw_obj (c := 10) I rfl
  refine pw_call (m' := 19) (As := [.ref 26, pw_i k, pw_i b]) (rest := []) (ls'' := [some (.ref 26), some (pw_i k), some (pw_i b)]) (Nat.le_trans (by decide) hd) E rfl (fun _ => pw_iV rfl rfl rfl rfl (pw_cellI f1h rfl)) (rfl : pm_ent 19 = some (3, 3, 2, 1, pmc_19)) rfl rfl (cm_19_10h (pw_dp hd (by decide)) I (k) (by omega) (by omega) (b) (by omega) (by omega)) ?_
  rintro u3 v2 ⟨rfl, x4, rfl, hx4a, hx4b, hx4r⟩
  refine ⟨_, rfl, ?_⟩
  show pw X d h 23 6 [some (.ref 26), some (pw_i k), some (pw_i b), some (pw_i e)] [pw_i x4] _
  change (x4 = 1 ∧ pw_g h 11 (k * 12 + b).toNat = -2) ∨ (x4 = 0 ∧ pw_g h 11 (k * 12 + b).toNat ≠ -2) at hx4r
  rcases (by omega : x4 = 1 ∨ x4 = 0) with hb5 | hb5
  · skip
    refine pw_if E (pc' := 22) rfl (by decide) (by omega) (by omega) ?_ ?_
    · intro hc6
      change x4 ≠ (0 : Int) at hc6
      refine pw_ld E (pc' := 23) (st' := [pw_i 0]) rfl (fun _ => rfl) ?_
      refine pw_zret E rfl (by omega) ?_
      exact ⟨rfl, ⟨_, rfl, by omega, by omega, by omega⟩⟩
    · intro hc7
      change ¬ (x4 ≠ (0 : Int)) at hc7
      exfalso; omega
  · skip
    refine pw_if E (pc' := 22) rfl (by decide) (by omega) (by omega) ?_ ?_
    · intro hc9
      change x4 ≠ (0 : Int) at hc9
      exfalso; omega
    · intro hc10
      change ¬ (x4 ≠ (0 : Int)) at hc10
      refine pw_ld E (pc' := 10) (st' := [.ref 26]) rfl (fun _ => rfl) ?_
      refine pw_ld E (pc' := 11) (st' := [pw_i k, .ref 26]) rfl (fun _ => rfl) ?_
      refine pw_ld E (pc' := 12) (st' := [pw_i e, pw_i k, .ref 26]) rfl (fun _ => rfl) ?_
      obtain ⟨f11l, f11h, -⟩ := pw_obj (c := 10) I rfl
      refine pw_call (m' := 19) (As := [.ref 26, pw_i k, pw_i e]) (rest := []) (ls'' := [some (.ref 26), some (pw_i k), some (pw_i e)]) (Nat.le_trans (by decide) hd) E rfl (fun _ => pw_iV rfl rfl rfl rfl (pw_cellI f11h rfl)) (rfl : pm_ent 19 = some (3, 3, 2, 1, pmc_19)) rfl rfl (cm_19_10h (pw_dp hd (by decide)) I (k) (by omega) (by omega) (e) (by omega) (by omega)) ?_
      rintro u13 v12 ⟨rfl, x14, rfl, hx14a, hx14b, hx14r⟩
      refine ⟨_, rfl, ?_⟩
      show pw X d h 23 15 [some (.ref 26), some (pw_i k), some (pw_i b), some (pw_i e)] [pw_i x14] _
      change (x14 = 1 ∧ pw_g h 11 (k * 12 + e).toNat = -2) ∨ (x14 = 0 ∧ pw_g h 11 (k * 12 + e).toNat ≠ -2) at hx14r
      rcases (by omega : x14 = 1 ∨ x14 = 0) with hb15 | hb15
      · skip
        refine pw_if E (pc' := 22) rfl (by decide) (by omega) (by omega) ?_ ?_
        · intro hc16
          change x14 ≠ (0 : Int) at hc16
          refine pw_ld E (pc' := 23) (st' := [pw_i 0]) rfl (fun _ => rfl) ?_
          refine pw_zret E rfl (by omega) ?_
          exact ⟨rfl, ⟨_, rfl, by omega, by omega, by omega⟩⟩
        · intro hc17
          change ¬ (x14 ≠ (0 : Int)) at hc17
          exfalso; omega
      · skip
        refine pw_if E (pc' := 22) rfl (by decide) (by omega) (by omega) ?_ ?_
        · intro hc19
          change x14 ≠ (0 : Int) at hc19
          exfalso; omega
        · intro hc20
          change ¬ (x14 ≠ (0 : Int)) at hc20
          refine pw_ld E (pc' := 19) (st' := [pw_i 1]) rfl (fun _ => rfl) ?_
          refine pw_goto E (pc' := 23) rfl (by decide) ?_
          refine pw_zret E rfl (by omega) ?_
          exact ⟨rfl, ⟨_, rfl, by omega, by omega, by omega⟩⟩
set_option maxHeartbeats 4000000 in
theorem cm_63_s {X : List (Nat × List Value)} {d : Nat} {h : pm_H} (hd : 1 ≤ d) (I : pw_I h) (k : Int) (hk1 : 0 ≤ k) (hk2 : k ≤ 23) (b : Int) (hb1 : (-2147483648) ≤ b) (hb2 : b ≤ 2147483647) : pw X d h 63 0 [some (.ref 17), some (pw_i k), some (pw_i b)] [] (fun h' v => h = h' ∧ ∃ a : Int, v = .inl (some (pw_i a)) ∧ 0 ≤ a ∧ a ≤ 1 ∧ ((a = 1 ∧ pw_g h 2 k.toNat = 1 ∧ pw_g h 4 k.toNat = b) ∨ (a = 0 ∧ ¬ (pw_g h 2 k.toNat = 1 ∧ pw_g h 4 k.toNat = b)))) := by
  have E : pm_ent 63 = some (3, 3, 6, 1, pmc_63) := rfl
  refine pw_ld E (pc' := 1) (st' := [.ref 17]) rfl (fun _ => rfl) ?_
  refine pw_getR (b := 18) I E (c := 1) (k := 0) (pc' := 4) rfl rfl rfl rfl rfl rfl rfl ?_
  refine pw_ld E (pc' := 5) (st' := [pw_i k, .ref 18]) rfl (fun _ => rfl) ?_
  refine pw_ald2 I E (c := 2) (pc' := 6) rfl rfl rfl (by decide) rfl (by decide) (by omega) (by omega) rfl (fun hf1a hf1b => ?_)
  refine pw_if E (pc' := 23) rfl (by decide) (by omega) (by omega) ?_ ?_
  · intro hc2
    change pw_g h 2 (k.toNat) = (0 : Int) at hc2
    refine pw_ld E (pc' := 24) (st' := [pw_i 0]) rfl (fun _ => rfl) ?_
    refine pw_zret E rfl (by omega) ?_
    exact ⟨rfl, ⟨_, rfl, by omega, by omega, by omega⟩⟩
  · intro hc3
    change ¬ (pw_g h 2 (k.toNat) = (0 : Int)) at hc3
    refine pw_ld E (pc' := 10) (st' := [.ref 17]) rfl (fun _ => rfl) ?_
    refine pw_getR (b := 20) I E (c := 1) (k := 2) (pc' := 13) rfl rfl rfl rfl rfl rfl rfl ?_
    refine pw_ld E (pc' := 14) (st' := [pw_i k, .ref 20]) rfl (fun _ => rfl) ?_
    refine pw_ald2 I E (c := 4) (pc' := 15) rfl rfl rfl (by decide) rfl (by decide) (by omega) (by omega) rfl (fun hf4a hf4b => ?_)
    refine pw_ld E (pc' := 16) (st' := [pw_i b, pw_i (pw_g h 4 (k.toNat))]) rfl (fun _ => rfl) ?_
    refine pw_if2 E (pc' := 23) rfl (by decide) (by omega) (by omega) (by omega) (by omega) ?_ ?_
    · intro hc5
      change pw_g h 4 (k.toNat) ≠ b at hc5
      refine pw_ld E (pc' := 24) (st' := [pw_i 0]) rfl (fun _ => rfl) ?_
      refine pw_zret E rfl (by omega) ?_
      exact ⟨rfl, ⟨_, rfl, by omega, by omega, by omega⟩⟩
    · intro hc6
      change ¬ (pw_g h 4 (k.toNat) ≠ b) at hc6
      refine pw_ld E (pc' := 20) (st' := [pw_i 1]) rfl (fun _ => rfl) ?_
      refine pw_goto E (pc' := 24) rfl (by decide) ?_
      refine pw_zret E rfl (by omega) ?_
      exact ⟨rfl, ⟨_, rfl, by omega, by omega, by omega⟩⟩
end
section
/-! the model's sums, exactly (printed by wip/tool/mmsum.py) -/
theorem pv_okD {n0 n1 a : Int} (h0 : 0 ≤ n0) (h1 : 0 ≤ n1) (r : (a = 1 ∧ 0 < n0 * n1) ∨ (a = 0 ∧ n0 * n1 ≤ 0)) : (a = 1 ∧ (1 ≤ n0 ∧ 1 ≤ n1)) ∨ (a = 0 ∧ ¬ (1 ≤ n0 ∧ 1 ≤ n1)) := by
  rcases r with ⟨r1, r2⟩ | ⟨r1, r2⟩
  · refine Or.inl ⟨r1, ?_⟩
    rcases (by omega : n0 = 0 ∨ n1 = 0 ∨ (1 ≤ n0 ∧ 1 ≤ n1)) with q | q | q
    · rw [q, Int.zero_mul] at r2; omega
    · rw [q, Int.mul_zero] at r2; omega
    · exact q
  · refine Or.inr ⟨r1, fun q => ?_⟩
    have := pw_mulB (a := n0) (b := n1) (A := n0) (B := n1) h0 (Int.le_refl _) h1 (Int.le_refl _)
    have := this.2.2 q.1 q.2
    omega
def pv_hmk (h : pm_H) (mo : Int) (k : Int) : Int := pw_hm (pw_g h 139 (12 * k + mo).toNat) (pw_g h 140 (12 * k + mo).toNat) (pw_g h 125 15)
set_option maxHeartbeats 4000000 in
theorem cm_131_s {X : List (Nat × List Value)} {d : Nat} {h : pm_H} (hd : 3 ≤ d) (I : pw_I h) (b : Int) (hb1 : (-2147483648) ≤ b) (hb2 : b ≤ 2147483647) (e : Int) (he1 : (-2147483648) ≤ e) (he2 : e ≤ 2147483647) : pw X d h 131 0 [some (pw_i b), some (pw_i e)] [] (fun h' v => h = h' ∧ ∃ a : Int, v = .inl (some (pw_i a)) ∧ 0 ≤ a ∧ a ≤ 1 ∧ ((a = 1 ∧ 0 ≤ b ∧ b ≤ 11 ∧ 0 ≤ e ∧ e ≤ 11 ∧ b ≠ e) ∨ (a = 0 ∧ ¬ (0 ≤ b ∧ b ≤ 11 ∧ 0 ≤ e ∧ e ≤ 11 ∧ b ≠ e)))) := by
  have E : pm_ent 131 = some (2, 2, 11, 1, pmc_131) := rfl
  refine pw_ld E (pc' := 1) (st' := [pw_i b]) rfl (fun _ => rfl) ?_
  refine pw_call (m' := 125) (As := [pw_i b]) (rest := []) (ls'' := [some (pw_i b)]) (Nat.le_trans (by decide) hd) E rfl (fun _ => pw_iS rfl rfl rfl) (rfl : pm_ent 125 = some (1, 1, 11, 1, pmc_125)) rfl rfl (cm_125 (pw_dp hd (by decide)) I (b) (by omega) (by omega)) ?_
  rintro u2 v1 ⟨rfl, x3, rfl, hx3a, hx3b, hx3r⟩
  refine ⟨_, rfl, ?_⟩
  show pw X d h 131 4 [some (pw_i b), some (pw_i e)] [pw_i x3] _
  change (x3 = 1 ∧ 0 ≤ b ∧ b ≤ 11) ∨ (x3 = 0 ∧ ¬ (0 ≤ b ∧ b ≤ 11)) at hx3r
  rcases (by omega : x3 = 1 ∨ x3 = 0) with hb4 | hb4
  · skip
    refine pw_if E (pc' := 23) rfl (by decide) (by omega) (by omega) ?_ ?_
    · intro hc5
      change x3 = (0 : Int) at hc5
      exfalso; omega
    · intro hc6
      change ¬ (x3 = (0 : Int)) at hc6
      refine pw_ld E (pc' := 8) (st' := [pw_i e]) rfl (fun _ => rfl) ?_
      refine pw_call (m' := 125) (As := [pw_i e]) (rest := []) (ls'' := [some (pw_i e)]) (Nat.le_trans (by decide) hd) E rfl (fun _ => pw_iS rfl rfl rfl) (rfl : pm_ent 125 = some (1, 1, 11, 1, pmc_125)) rfl rfl (cm_125 (pw_dp hd (by decide)) I (e) (by omega) (by omega)) ?_
      rintro u8 v7 ⟨rfl, x9, rfl, hx9a, hx9b, hx9r⟩
      refine ⟨_, rfl, ?_⟩
      show pw X d h 131 11 [some (pw_i b), some (pw_i e)] [pw_i x9] _
      change (x9 = 1 ∧ 0 ≤ e ∧ e ≤ 11) ∨ (x9 = 0 ∧ ¬ (0 ≤ e ∧ e ≤ 11)) at hx9r
      rcases (by omega : x9 = 1 ∨ x9 = 0) with hb10 | hb10
      · skip
        refine pw_if E (pc' := 23) rfl (by decide) (by omega) (by omega) ?_ ?_
        · intro hc11
          change x9 = (0 : Int) at hc11
          exfalso; omega
        · intro hc12
          change ¬ (x9 = (0 : Int)) at hc12
          refine pw_ld E (pc' := 15) (st' := [pw_i b]) rfl (fun _ => rfl) ?_
          refine pw_ld E (pc' := 16) (st' := [pw_i e, pw_i b]) rfl (fun _ => rfl) ?_
          refine pw_if2 E (pc' := 23) rfl (by decide) (by omega) (by omega) (by omega) (by omega) ?_ ?_
          · intro hc13
            change b = e at hc13
            refine pw_ld E (pc' := 24) (st' := [pw_i 0]) rfl (fun _ => rfl) ?_
            refine pw_zret E rfl (by omega) ?_
            exact ⟨rfl, ⟨_, rfl, by omega, by omega, by omega⟩⟩
          · intro hc14
            change ¬ (b = e) at hc14
            refine pw_ld E (pc' := 20) (st' := [pw_i 1]) rfl (fun _ => rfl) ?_
            refine pw_goto E (pc' := 24) rfl (by decide) ?_
            refine pw_zret E rfl (by omega) ?_
            exact ⟨rfl, ⟨_, rfl, by omega, by omega, by omega⟩⟩
      · skip
        refine pw_if E (pc' := 23) rfl (by decide) (by omega) (by omega) ?_ ?_
        · intro hc16
          change x9 = (0 : Int) at hc16
          refine pw_ld E (pc' := 24) (st' := [pw_i 0]) rfl (fun _ => rfl) ?_
          refine pw_zret E rfl (by omega) ?_
          exact ⟨rfl, ⟨_, rfl, by omega, by omega, by omega⟩⟩
        · intro hc17
          change ¬ (x9 = (0 : Int)) at hc17
          exfalso; omega
  · skip
    refine pw_if E (pc' := 23) rfl (by decide) (by omega) (by omega) ?_ ?_
    · intro hc19
      change x3 = (0 : Int) at hc19
      refine pw_ld E (pc' := 24) (st' := [pw_i 0]) rfl (fun _ => rfl) ?_
      refine pw_zret E rfl (by omega) ?_
      exact ⟨rfl, ⟨_, rfl, by omega, by omega, by omega⟩⟩
    · intro hc20
      change ¬ (x3 = (0 : Int)) at hc20
      exfalso; omega
set_option maxHeartbeats 4000000 in
theorem cm_213_s {X : List (Nat × List Value)} {d : Nat} {h : pm_H} (hd : 3 ≤ d) (I : pw_I h) (b : Int) (hb1 : (-2147483648) ≤ b) (hb2 : b ≤ 2147483647) (e : Int) (he1 : (-2147483648) ≤ e) (he2 : e ≤ 2147483647) : pw X d h 213 0 [some (pw_i b), some (pw_i e)] [] (fun h' v => h = h' ∧ ∃ a : Int, v = .inl (some (pw_i a)) ∧ 0 ≤ a ∧ a ≤ 1 ∧ ((a = 1 ∧ 0 ≤ b ∧ b ≤ 11 ∧ 0 ≤ e ∧ e ≤ 11 ∧ b ≠ e) ∨ (a = 0 ∧ ¬ (0 ≤ b ∧ b ≤ 11 ∧ 0 ≤ e ∧ e ≤ 11 ∧ b ≠ e)))) := by
  have E : pm_ent 213 = some (2, 2, 12, 1, pmc_213) := rfl
  refine pw_ld E (pc' := 1) (st' := [pw_i b]) rfl (fun _ => rfl) ?_
  refine pw_call (m' := 205) (As := [pw_i b]) (rest := []) (ls'' := [some (pw_i b)]) (Nat.le_trans (by decide) hd) E rfl (fun _ => pw_iS rfl rfl rfl) (rfl : pm_ent 205 = some (1, 1, 12, 1, pmc_205)) rfl rfl (cm_205 (pw_dp hd (by decide)) I (b) (by omega) (by omega)) ?_
  rintro u2 v1 ⟨rfl, x3, rfl, hx3a, hx3b, hx3r⟩
  refine ⟨_, rfl, ?_⟩
  show pw X d h 213 4 [some (pw_i b), some (pw_i e)] [pw_i x3] _
  change (x3 = 1 ∧ 0 ≤ b ∧ b ≤ 11) ∨ (x3 = 0 ∧ ¬ (0 ≤ b ∧ b ≤ 11)) at hx3r
  rcases (by omega : x3 = 1 ∨ x3 = 0) with hb4 | hb4
  · skip
    refine pw_if E (pc' := 23) rfl (by decide) (by omega) (by omega) ?_ ?_
    · intro hc5
      change x3 = (0 : Int) at hc5
      exfalso; omega
    · intro hc6
      change ¬ (x3 = (0 : Int)) at hc6
      refine pw_ld E (pc' := 8) (st' := [pw_i e]) rfl (fun _ => rfl) ?_
      refine pw_call (m' := 205) (As := [pw_i e]) (rest := []) (ls'' := [some (pw_i e)]) (Nat.le_trans (by decide) hd) E rfl (fun _ => pw_iS rfl rfl rfl) (rfl : pm_ent 205 = some (1, 1, 12, 1, pmc_205)) rfl rfl (cm_205 (pw_dp hd (by decide)) I (e) (by omega) (by omega)) ?_
      rintro u8 v7 ⟨rfl, x9, rfl, hx9a, hx9b, hx9r⟩
      refine ⟨_, rfl, ?_⟩
      show pw X d h 213 11 [some (pw_i b), some (pw_i e)] [pw_i x9] _
      change (x9 = 1 ∧ 0 ≤ e ∧ e ≤ 11) ∨ (x9 = 0 ∧ ¬ (0 ≤ e ∧ e ≤ 11)) at hx9r
      rcases (by omega : x9 = 1 ∨ x9 = 0) with hb10 | hb10
      · skip
        refine pw_if E (pc' := 23) rfl (by decide) (by omega) (by omega) ?_ ?_
        · intro hc11
          change x9 = (0 : Int) at hc11
          exfalso; omega
        · intro hc12
          change ¬ (x9 = (0 : Int)) at hc12
          refine pw_ld E (pc' := 15) (st' := [pw_i b]) rfl (fun _ => rfl) ?_
          refine pw_ld E (pc' := 16) (st' := [pw_i e, pw_i b]) rfl (fun _ => rfl) ?_
          refine pw_if2 E (pc' := 23) rfl (by decide) (by omega) (by omega) (by omega) (by omega) ?_ ?_
          · intro hc13
            change b = e at hc13
            refine pw_ld E (pc' := 24) (st' := [pw_i 0]) rfl (fun _ => rfl) ?_
            refine pw_zret E rfl (by omega) ?_
            exact ⟨rfl, ⟨_, rfl, by omega, by omega, by omega⟩⟩
          · intro hc14
            change ¬ (b = e) at hc14
            refine pw_ld E (pc' := 20) (st' := [pw_i 1]) rfl (fun _ => rfl) ?_
            refine pw_goto E (pc' := 24) rfl (by decide) ?_
            refine pw_zret E rfl (by omega) ?_
            exact ⟨rfl, ⟨_, rfl, by omega, by omega, by omega⟩⟩
      · skip
        refine pw_if E (pc' := 23) rfl (by decide) (by omega) (by omega) ?_ ?_
        · intro hc16
          change x9 = (0 : Int) at hc16
          refine pw_ld E (pc' := 24) (st' := [pw_i 0]) rfl (fun _ => rfl) ?_
          refine pw_zret E rfl (by omega) ?_
          exact ⟨rfl, ⟨_, rfl, by omega, by omega, by omega⟩⟩
        · intro hc17
          change ¬ (x9 = (0 : Int)) at hc17
          exfalso; omega
  · skip
    refine pw_if E (pc' := 23) rfl (by decide) (by omega) (by omega) ?_ ?_
    · intro hc19
      change x3 = (0 : Int) at hc19
      refine pw_ld E (pc' := 24) (st' := [pw_i 0]) rfl (fun _ => rfl) ?_
      refine pw_zret E rfl (by omega) ?_
      exact ⟨rfl, ⟨_, rfl, by omega, by omega, by omega⟩⟩
    · intro hc20
      change ¬ (x3 = (0 : Int)) at hc20
      exfalso; omega
set_option maxHeartbeats 4000000 in
theorem cm_214_s {X : List (Nat × List Value)} {d : Nat} {h : pm_H} (hd : 1 ≤ d) (I : pw_I h) (k : Int) (hk1 : 0 ≤ k) (hk2 : k ≤ 23) (b : Int) (hb1 : 0 ≤ b) (hb2 : b ≤ 11) (e : Int) (he1 : 0 ≤ e) (he2 : e ≤ 11) : pw X d h 214 0 [some (.ref 141), some (pw_i k), some (pw_i b), some (pw_i e)] [] (fun h' v => h = h' ∧ ∃ a : Int, v = .inl (some (pw_i a)) ∧ 0 ≤ a ∧ a ≤ 1 ∧ ((a = 1 ∧ pw_g h 131 k.toNat ≠ 0 ∧ pw_g h 138 (12 * k + b).toNat ≠ 0 ∧ pw_g h 138 (12 * k + e).toNat ≠ 0) ∨ (a = 0 ∧ ¬ (pw_g h 131 k.toNat ≠ 0 ∧ pw_g h 138 (12 * k + b).toNat ≠ 0 ∧ pw_g h 138 (12 * k + e).toNat ≠ 0)))) := by
  have E : pm_ent 214 = some (4, 4, 12, 1, pmc_214) := rfl
  refine pw_ld E (pc' := 1) (st' := [.ref 141]) rfl (fun _ => rfl) ?_
  refine pw_getR (b := 147) I E (c := 125) (k := 10) (pc' := 4) rfl rfl rfl rfl rfl rfl rfl ?_
  refine pw_ld E (pc' := 5) (st' := [pw_i k, .ref 147]) rfl (fun _ => rfl) ?_
  refine pw_ald2 I E (c := 131) (pc' := 6) rfl rfl rfl (by decide) rfl (by decide) (by omega) (by omega) rfl (fun hf1a hf1b => ?_)
  refine pw_if E (pc' := 41) rfl (by decide) (by omega) (by omega) ?_ ?_
  · intro hc2
    change pw_g h 131 (k.toNat) = (0 : Int) at hc2
    refine pw_ld E (pc' := 42) (st' := [pw_i 0]) rfl (fun _ => rfl) ?_
    refine pw_zret E rfl (by omega) ?_
    exact ⟨rfl, ⟨_, rfl, by omega, by omega, by omega⟩⟩
  · intro hc3
    change ¬ (pw_g h 131 (k.toNat) = (0 : Int)) at hc3
    refine pw_ld E (pc' := 10) (st' := [.ref 141]) rfl (fun _ => rfl) ?_
    refine pw_getR (b := 154) I E (c := 125) (k := 18) (pc' := 13) rfl rfl rfl rfl rfl rfl rfl ?_
    refine pw_bip E (pc' := 15) rfl rfl (by decide) ?_
    refine pw_ld E (pc' := 16) (st' := [pw_i k, pw_i 12, .ref 154]) rfl (fun _ => rfl) ?_
    refine pw_mul E (pc' := 17) rfl rfl ?_
    refine pw_ld E (pc' := 18) (st' := [pw_i b, pw_i (12 * k), .ref 154]) rfl (fun _ => rfl) ?_
    refine pw_add E (pc' := 19) rfl rfl ?_
    refine pw_ald2 I E (c := 138) (pc' := 20) rfl rfl rfl (by decide) rfl (by decide) (by omega) (by omega) rfl (fun hf4a hf4b => ?_)
    refine pw_if E (pc' := 41) rfl (by decide) (by omega) (by omega) ?_ ?_
    · intro hc5
      change pw_g h 138 (((12 * k) + b).toNat) = (0 : Int) at hc5
      refine pw_ld E (pc' := 42) (st' := [pw_i 0]) rfl (fun _ => rfl) ?_
      refine pw_zret E rfl (by omega) ?_
      exact ⟨rfl, ⟨_, rfl, by omega, by omega, by omega⟩⟩
    · intro hc6
      change ¬ (pw_g h 138 (((12 * k) + b).toNat) = (0 : Int)) at hc6
      refine pw_ld E (pc' := 24) (st' := [.ref 141]) rfl (fun _ => rfl) ?_
      refine pw_getR (b := 154) I E (c := 125) (k := 18) (pc' := 27) rfl rfl rfl rfl rfl rfl rfl ?_
      refine pw_bip E (pc' := 29) rfl rfl (by decide) ?_
      refine pw_ld E (pc' := 30) (st' := [pw_i k, pw_i 12, .ref 154]) rfl (fun _ => rfl) ?_
      refine pw_mul E (pc' := 31) rfl rfl ?_
      refine pw_ld E (pc' := 32) (st' := [pw_i e, pw_i (12 * k), .ref 154]) rfl (fun _ => rfl) ?_
      refine pw_add E (pc' := 33) rfl rfl ?_
      refine pw_ald2 I E (c := 138) (pc' := 34) rfl rfl rfl (by decide) rfl (by decide) (by omega) (by omega) rfl (fun hf7a hf7b => ?_)
      refine pw_if E (pc' := 41) rfl (by decide) (by omega) (by omega) ?_ ?_
      · intro hc8
        change pw_g h 138 (((12 * k) + e).toNat) = (0 : Int) at hc8
        refine pw_ld E (pc' := 42) (st' := [pw_i 0]) rfl (fun _ => rfl) ?_
        refine pw_zret E rfl (by omega) ?_
        exact ⟨rfl, ⟨_, rfl, by omega, by omega, by omega⟩⟩
      · intro hc9
        change ¬ (pw_g h 138 (((12 * k) + e).toNat) = (0 : Int)) at hc9
        refine pw_ld E (pc' := 38) (st' := [pw_i 1]) rfl (fun _ => rfl) ?_
        refine pw_goto E (pc' := 42) rfl (by decide) ?_
        refine pw_zret E rfl (by omega) ?_
        exact ⟨rfl, ⟨_, rfl, by omega, by omega, by omega⟩⟩
set_option maxHeartbeats 4000000 in
theorem cm_219_s {X : List (Nat × List Value)} {d : Nat} {h : pm_H} (hd : 1 ≤ d) (I : pw_I h)  : pw X d h 219 0 [some (.ref 141)] [] (fun h' v => pw_I h' ∧ pw_E [125] h h' ∧ (pw_gm h' 125 26 = 0 ∧ pw_gm h' 125 27 = 0 ∧ pw_gm h' 125 28 = 0 ∧ pw_gm h' 125 29 = 0) ∧ (v = .inl none)) := by
  have E : pm_ent 219 = some (1, 1, 12, 4, pmc_219) := rfl
  have E0 : pw_E [125] h h := pw_E.rf _ _
  refine pw_ld E (pc' := 1) (st' := [.ref 141]) rfl (fun _ => rfl) ?_
  refine pw_ld E (pc' := 2) (st' := [.long (Int64.ofInt 0), .ref 141]) rfl (fun _ => rfl) ?_
  refine pw_putL I E (c := 125) (k := 26) (pc' := 5) rfl rfl rfl rfl rfl rfl ?_
  intro h1I h1E
  generalize h1w : pw_w h 125 26 (.long (Int64.ofInt 0)) = h1 at h1I h1E ⊢
  have h1F := E0.tr (h1E.wk (W' := [125]) (by first | rfl | simp))
  refine pw_ld E (pc' := 6) (st' := [.ref 141]) rfl (fun _ => rfl) ?_
  refine pw_ld E (pc' := 7) (st' := [.long (Int64.ofInt 0), .ref 141]) rfl (fun _ => rfl) ?_
  refine pw_putM h1I E (c := 125) (k := 27) (pc' := 10) rfl rfl rfl rfl (by omega) (by omega) (by omega) (by omega) rfl rfl ?_
  intro h2I h2E
  generalize h2w : pw_w h1 125 27 (.long (Int64.ofInt 0)) = h2 at h2I h2E ⊢
  have h2F := h1F.tr (h2E.wk (W' := [125]) (by first | rfl | simp))
  refine pw_ld E (pc' := 11) (st' := [.ref 141]) rfl (fun _ => rfl) ?_
  refine pw_ld E (pc' := 12) (st' := [.long (Int64.ofInt 0), .ref 141]) rfl (fun _ => rfl) ?_
  refine pw_putL h2I E (c := 125) (k := 28) (pc' := 15) rfl rfl rfl rfl rfl rfl ?_
  intro h3I h3E
  generalize h3w : pw_w h2 125 28 (.long (Int64.ofInt 0)) = h3 at h3I h3E ⊢
  have h3F := h2F.tr (h3E.wk (W' := [125]) (by first | rfl | simp))
  refine pw_ld E (pc' := 16) (st' := [.ref 141]) rfl (fun _ => rfl) ?_
  refine pw_ld E (pc' := 17) (st' := [.long (Int64.ofInt 0), .ref 141]) rfl (fun _ => rfl) ?_
  refine pw_putM h3I E (c := 125) (k := 29) (pc' := 20) rfl rfl rfl rfl (by omega) (by omega) (by omega) (by omega) rfl rfl ?_
  intro h4I h4E
  generalize h4w : pw_w h3 125 29 (.long (Int64.ofInt 0)) = h4 at h4I h4E ⊢
  have h4F := h3F.tr (h4E.wk (W' := [125]) (by first | rfl | simp))
  have he5 : pw_gm h4 125 26 = pw_gm h3 125 26 := by rw [← h4w]; exact pw_gm_ne (by omega)
  have he6 : pw_gm h3 125 26 = pw_gm h2 125 26 := by rw [← h3w]; exact pw_gm_ne (by omega)
  have he7 : pw_gm h2 125 26 = pw_gm h1 125 26 := by rw [← h2w]; exact pw_gm_ne (by omega)
  have he8 : pw_gm h1 125 26 = 0 := by rw [← h1w]; exact pw_gm_eq (c := 125) (k := 26) I rfl rfl (by omega) (by omega)
  have he9 : pw_gm h4 125 27 = pw_gm h3 125 27 := by rw [← h4w]; exact pw_gm_ne (by omega)
  have he10 : pw_gm h3 125 27 = pw_gm h2 125 27 := by rw [← h3w]; exact pw_gm_ne (by omega)
  have he11 : pw_gm h2 125 27 = 0 := by rw [← h2w]; exact pw_gm_eq (c := 125) (k := 27) h1I rfl rfl (by omega) (by omega)
  have he12 : pw_gm h4 125 28 = pw_gm h3 125 28 := by rw [← h4w]; exact pw_gm_ne (by omega)
  have he13 : pw_gm h3 125 28 = 0 := by rw [← h3w]; exact pw_gm_eq (c := 125) (k := 28) h2I rfl rfl (by omega) (by omega)
  have he14 : pw_gm h4 125 29 = 0 := by rw [← h4w]; exact pw_gm_eq (c := 125) (k := 29) h3I rfl rfl (by omega) (by omega)
  refine pw_vret E rfl ?_
  exact ⟨h4I, h4F, ⟨by omega, rfl⟩⟩
set_option maxHeartbeats 4000000 in
theorem cm_220_s {X : List (Nat × List Value)} {d : Nat} {h : pm_H} (hd : 1 ≤ d) (I : pw_I h) (z : Int) (hz1 : 0 ≤ z) (hz2 : z ≤ 1) (ch : Int) (hch1 : (-2000) ≤ ch) (hch2 : ch ≤ 2000) (hp0 : pw_gm h 125 27 + pw_gm h 125 29 ≤ 23) (hp1 : 0 ≤ pw_gm h 125 27) (hp2 : 0 ≤ pw_gm h 125 29) (hp3 : (-48000) ≤ pw_gm h 125 26) (hp4 : pw_gm h 125 26 ≤ 48000) (hp5 : (-48000) ≤ pw_gm h 125 28) (hp6 : pw_gm h 125 28 ≤ 48000) : pw X d h 220 0 [some (.ref 141), some (pw_i z), some (.long (Int64.ofInt ch)), none] [] (fun h' v => pw_I h' ∧ pw_E [125] h h' ∧ ((z = 1 → pw_gm h' 125 26 = pw_gm h 125 26 + ch ∧ pw_gm h' 125 27 = pw_gm h 125 27 + 1 ∧ pw_gm h' 125 28 = pw_gm h 125 28 ∧ pw_gm h' 125 29 = pw_gm h 125 29) ∧ (z = 0 → pw_gm h' 125 26 = pw_gm h 125 26 ∧ pw_gm h' 125 27 = pw_gm h 125 27 ∧ pw_gm h' 125 28 = pw_gm h 125 28 + ch ∧ pw_gm h' 125 29 = pw_gm h 125 29 + 1)) ∧ (v = .inl none)) := by
  have E : pm_ent 220 = some (3, 4, 12, 4, pmc_220) := rfl
  have E0 : pw_E [125] h h := pw_E.rf _ _
  refine pw_ld E (pc' := 1) (st' := [.ref 141]) rfl (fun _ => rfl) ?_
  refine pw_ld E (pc' := 2) (st' := [.ref 141, .ref 141]) rfl (fun _ => rfl) ?_
  refine pw_getLM I E (c := 125) (k := 26) (pc' := 5) rfl rfl rfl rfl rfl rfl ?_
  refine pw_ld E (pc' := 6) (st' := [pw_i z, .long (Int64.ofInt (pw_gm h 125 26)), .ref 141]) rfl (fun _ => rfl) ?_
  refine pw_if E (pc' := 13) rfl (by decide) (by omega) (by omega) ?_ ?_
  · intro hc1
    change z = (0 : Int) at hc1
    refine pw_ld E (pc' := 14) (st' := [.long (Int64.ofInt 0), .long (Int64.ofInt (pw_gm h 125 26)), .ref 141]) rfl (fun _ => rfl) ?_
    refine pw_ladd E (pc' := 15) rfl rfl ?_
    refine pw_putL I E (c := 125) (k := 26) (pc' := 18) rfl rfl rfl rfl rfl rfl ?_
    intro h2I h2E
    generalize h2w : pw_w h 125 26 (.long (Int64.ofInt ((pw_gm h 125 26) + 0))) = h2 at h2I h2E ⊢
    have h2F := E0.tr (h2E.wk (W' := [125]) (by first | rfl | simp))
    refine pw_ld E (pc' := 19) (st' := [.ref 141]) rfl (fun _ => rfl) ?_
    refine pw_ld E (pc' := 20) (st' := [.ref 141, .ref 141]) rfl (fun _ => rfl) ?_
    have he4 : pw_gm h2 125 27 = pw_gm h 125 27 := by rw [← h2w]; exact pw_gm_ne (by omega)
    refine pw_getM h2I E (c := 125) (k := 27) (pc' := 23) rfl rfl rfl rfl rfl rfl (fun hf3a hf3b => ?_)
    refine pw_ld E (pc' := 24) (st' := [pw_i z, .long (Int64.ofInt (pw_gm h2 125 27)), .ref 141]) rfl (fun _ => rfl) ?_
    refine pw_if E (pc' := 31) rfl (by decide) (by omega) (by omega) ?_ ?_
    · intro hc5
      change z = (0 : Int) at hc5
      refine pw_ld E (pc' := 32) (st' := [.long (Int64.ofInt 0), .long (Int64.ofInt (pw_gm h2 125 27)), .ref 141]) rfl (fun _ => rfl) ?_
      refine pw_ladd E (pc' := 33) rfl rfl ?_
      refine pw_putM h2I E (c := 125) (k := 27) (pc' := 36) rfl rfl rfl rfl (by omega) (by omega) (by omega) (by omega) rfl rfl ?_
      intro h6I h6E
      generalize h6w : pw_w h2 125 27 (.long (Int64.ofInt ((pw_gm h2 125 27) + 0))) = h6 at h6I h6E ⊢
      have h6F := h2F.tr (h6E.wk (W' := [125]) (by first | rfl | simp))
      refine pw_ld E (pc' := 37) (st' := [.ref 141]) rfl (fun _ => rfl) ?_
      refine pw_ld E (pc' := 38) (st' := [.ref 141, .ref 141]) rfl (fun _ => rfl) ?_
      have he7 : pw_gm h6 125 28 = pw_gm h2 125 28 := by rw [← h6w]; exact pw_gm_ne (by omega)
      have he8 : pw_gm h2 125 28 = pw_gm h 125 28 := by rw [← h2w]; exact pw_gm_ne (by omega)
      refine pw_getLM h6I E (c := 125) (k := 28) (pc' := 41) rfl rfl rfl rfl rfl rfl ?_
      refine pw_ld E (pc' := 42) (st' := [pw_i z, .long (Int64.ofInt (pw_gm h6 125 28)), .ref 141]) rfl (fun _ => rfl) ?_
      refine pw_if E (pc' := 49) rfl (by decide) (by omega) (by omega) ?_ ?_
      · intro hc9
        change z = (0 : Int) at hc9
        refine pw_ld E (pc' := 50) (st' := [.long (Int64.ofInt ch), .long (Int64.ofInt (pw_gm h6 125 28)), .ref 141]) rfl (fun _ => rfl) ?_
        refine pw_ladd E (pc' := 51) rfl rfl ?_
        refine pw_putL h6I E (c := 125) (k := 28) (pc' := 54) rfl rfl rfl rfl rfl rfl ?_
        intro h10I h10E
        generalize h10w : pw_w h6 125 28 (.long (Int64.ofInt ((pw_gm h6 125 28) + ch))) = h10 at h10I h10E ⊢
        have h10F := h6F.tr (h10E.wk (W' := [125]) (by first | rfl | simp))
        refine pw_ld E (pc' := 55) (st' := [.ref 141]) rfl (fun _ => rfl) ?_
        refine pw_ld E (pc' := 56) (st' := [.ref 141, .ref 141]) rfl (fun _ => rfl) ?_
        have he12 : pw_gm h10 125 29 = pw_gm h6 125 29 := by rw [← h10w]; exact pw_gm_ne (by omega)
        have he13 : pw_gm h6 125 29 = pw_gm h2 125 29 := by rw [← h6w]; exact pw_gm_ne (by omega)
        have he14 : pw_gm h2 125 29 = pw_gm h 125 29 := by rw [← h2w]; exact pw_gm_ne (by omega)
        refine pw_getM h10I E (c := 125) (k := 29) (pc' := 59) rfl rfl rfl rfl rfl rfl (fun hf11a hf11b => ?_)
        refine pw_ld E (pc' := 60) (st' := [pw_i z, .long (Int64.ofInt (pw_gm h10 125 29)), .ref 141]) rfl (fun _ => rfl) ?_
        refine pw_if E (pc' := 67) rfl (by decide) (by omega) (by omega) ?_ ?_
        · intro hc15
          change z = (0 : Int) at hc15
          refine pw_ld E (pc' := 68) (st' := [.long (Int64.ofInt 1), .long (Int64.ofInt (pw_gm h10 125 29)), .ref 141]) rfl (fun _ => rfl) ?_
          refine pw_ladd E (pc' := 69) rfl rfl ?_
          refine pw_putM h10I E (c := 125) (k := 29) (pc' := 72) rfl rfl rfl rfl (by omega) (by omega) (by omega) (by omega) rfl rfl ?_
          intro h16I h16E
          generalize h16w : pw_w h10 125 29 (.long (Int64.ofInt ((pw_gm h10 125 29) + 1))) = h16 at h16I h16E ⊢
          have h16F := h10F.tr (h16E.wk (W' := [125]) (by first | rfl | simp))
          have he17 : pw_gm h16 125 26 = pw_gm h10 125 26 := by rw [← h16w]; exact pw_gm_ne (by omega)
          have he18 : pw_gm h10 125 26 = pw_gm h6 125 26 := by rw [← h10w]; exact pw_gm_ne (by omega)
          have he19 : pw_gm h6 125 26 = pw_gm h2 125 26 := by rw [← h6w]; exact pw_gm_ne (by omega)
          have he20 : pw_gm h2 125 26 = (pw_gm h 125 26) + 0 := by rw [← h2w]; exact pw_gm_eq (c := 125) (k := 26) I rfl rfl (by omega) (by omega)
          have he21 : pw_gm h16 125 27 = pw_gm h10 125 27 := by rw [← h16w]; exact pw_gm_ne (by omega)
          have he22 : pw_gm h10 125 27 = pw_gm h6 125 27 := by rw [← h10w]; exact pw_gm_ne (by omega)
          have he23 : pw_gm h6 125 27 = (pw_gm h2 125 27) + 0 := by rw [← h6w]; exact pw_gm_eq (c := 125) (k := 27) h2I rfl rfl (by omega) (by omega)
          have he24 : pw_gm h16 125 28 = pw_gm h10 125 28 := by rw [← h16w]; exact pw_gm_ne (by omega)
          have he25 : pw_gm h10 125 28 = (pw_gm h6 125 28) + ch := by rw [← h10w]; exact pw_gm_eq (c := 125) (k := 28) h6I rfl rfl (by omega) (by omega)
          have he26 : pw_gm h16 125 29 = (pw_gm h10 125 29) + 1 := by rw [← h16w]; exact pw_gm_eq (c := 125) (k := 29) h10I rfl rfl (by omega) (by omega)
          refine pw_vret E rfl ?_
          exact ⟨h16I, h16F, ⟨⟨fun _ => by omega, fun _ => by omega⟩, rfl⟩⟩
        · intro hc27
          change ¬ (z = (0 : Int)) at hc27
          exfalso; omega
      · intro hc28
        change ¬ (z = (0 : Int)) at hc28
        exfalso; omega
    · intro hc29
      change ¬ (z = (0 : Int)) at hc29
      exfalso; omega
  · intro hc30
    change ¬ (z = (0 : Int)) at hc30
    refine pw_ld E (pc' := 10) (st' := [.long (Int64.ofInt ch), .long (Int64.ofInt (pw_gm h 125 26)), .ref 141]) rfl (fun _ => rfl) ?_
    refine pw_goto E (pc' := 14) rfl (by decide) ?_
    refine pw_ladd E (pc' := 15) rfl rfl ?_
    refine pw_putL I E (c := 125) (k := 26) (pc' := 18) rfl rfl rfl rfl rfl rfl ?_
    intro h31I h31E
    generalize h31w : pw_w h 125 26 (.long (Int64.ofInt ((pw_gm h 125 26) + ch))) = h31 at h31I h31E ⊢
    have h31F := E0.tr (h31E.wk (W' := [125]) (by first | rfl | simp))
    refine pw_ld E (pc' := 19) (st' := [.ref 141]) rfl (fun _ => rfl) ?_
    refine pw_ld E (pc' := 20) (st' := [.ref 141, .ref 141]) rfl (fun _ => rfl) ?_
    have he33 : pw_gm h31 125 27 = pw_gm h 125 27 := by rw [← h31w]; exact pw_gm_ne (by omega)
    refine pw_getM h31I E (c := 125) (k := 27) (pc' := 23) rfl rfl rfl rfl rfl rfl (fun hf32a hf32b => ?_)
    refine pw_ld E (pc' := 24) (st' := [pw_i z, .long (Int64.ofInt (pw_gm h31 125 27)), .ref 141]) rfl (fun _ => rfl) ?_
    refine pw_if E (pc' := 31) rfl (by decide) (by omega) (by omega) ?_ ?_
    · intro hc34
      change z = (0 : Int) at hc34
      exfalso; omega
    · intro hc35
      change ¬ (z = (0 : Int)) at hc35
      refine pw_ld E (pc' := 28) (st' := [.long (Int64.ofInt 1), .long (Int64.ofInt (pw_gm h31 125 27)), .ref 141]) rfl (fun _ => rfl) ?_
      refine pw_goto E (pc' := 32) rfl (by decide) ?_
      refine pw_ladd E (pc' := 33) rfl rfl ?_
      refine pw_putM h31I E (c := 125) (k := 27) (pc' := 36) rfl rfl rfl rfl (by omega) (by omega) (by omega) (by omega) rfl rfl ?_
      intro h36I h36E
      generalize h36w : pw_w h31 125 27 (.long (Int64.ofInt ((pw_gm h31 125 27) + 1))) = h36 at h36I h36E ⊢
      have h36F := h31F.tr (h36E.wk (W' := [125]) (by first | rfl | simp))
      refine pw_ld E (pc' := 37) (st' := [.ref 141]) rfl (fun _ => rfl) ?_
      refine pw_ld E (pc' := 38) (st' := [.ref 141, .ref 141]) rfl (fun _ => rfl) ?_
      have he37 : pw_gm h36 125 28 = pw_gm h31 125 28 := by rw [← h36w]; exact pw_gm_ne (by omega)
      have he38 : pw_gm h31 125 28 = pw_gm h 125 28 := by rw [← h31w]; exact pw_gm_ne (by omega)
      refine pw_getLM h36I E (c := 125) (k := 28) (pc' := 41) rfl rfl rfl rfl rfl rfl ?_
      refine pw_ld E (pc' := 42) (st' := [pw_i z, .long (Int64.ofInt (pw_gm h36 125 28)), .ref 141]) rfl (fun _ => rfl) ?_
      refine pw_if E (pc' := 49) rfl (by decide) (by omega) (by omega) ?_ ?_
      · intro hc39
        change z = (0 : Int) at hc39
        exfalso; omega
      · intro hc40
        change ¬ (z = (0 : Int)) at hc40
        refine pw_ld E (pc' := 46) (st' := [.long (Int64.ofInt 0), .long (Int64.ofInt (pw_gm h36 125 28)), .ref 141]) rfl (fun _ => rfl) ?_
        refine pw_goto E (pc' := 50) rfl (by decide) ?_
        refine pw_ladd E (pc' := 51) rfl rfl ?_
        refine pw_putL h36I E (c := 125) (k := 28) (pc' := 54) rfl rfl rfl rfl rfl rfl ?_
        intro h41I h41E
        generalize h41w : pw_w h36 125 28 (.long (Int64.ofInt ((pw_gm h36 125 28) + 0))) = h41 at h41I h41E ⊢
        have h41F := h36F.tr (h41E.wk (W' := [125]) (by first | rfl | simp))
        refine pw_ld E (pc' := 55) (st' := [.ref 141]) rfl (fun _ => rfl) ?_
        refine pw_ld E (pc' := 56) (st' := [.ref 141, .ref 141]) rfl (fun _ => rfl) ?_
        have he43 : pw_gm h41 125 29 = pw_gm h36 125 29 := by rw [← h41w]; exact pw_gm_ne (by omega)
        have he44 : pw_gm h36 125 29 = pw_gm h31 125 29 := by rw [← h36w]; exact pw_gm_ne (by omega)
        have he45 : pw_gm h31 125 29 = pw_gm h 125 29 := by rw [← h31w]; exact pw_gm_ne (by omega)
        refine pw_getM h41I E (c := 125) (k := 29) (pc' := 59) rfl rfl rfl rfl rfl rfl (fun hf42a hf42b => ?_)
        refine pw_ld E (pc' := 60) (st' := [pw_i z, .long (Int64.ofInt (pw_gm h41 125 29)), .ref 141]) rfl (fun _ => rfl) ?_
        refine pw_if E (pc' := 67) rfl (by decide) (by omega) (by omega) ?_ ?_
        · intro hc46
          change z = (0 : Int) at hc46
          exfalso; omega
        · intro hc47
          change ¬ (z = (0 : Int)) at hc47
          refine pw_ld E (pc' := 64) (st' := [.long (Int64.ofInt 0), .long (Int64.ofInt (pw_gm h41 125 29)), .ref 141]) rfl (fun _ => rfl) ?_
          refine pw_goto E (pc' := 68) rfl (by decide) ?_
          refine pw_ladd E (pc' := 69) rfl rfl ?_
          refine pw_putM h41I E (c := 125) (k := 29) (pc' := 72) rfl rfl rfl rfl (by omega) (by omega) (by omega) (by omega) rfl rfl ?_
          intro h48I h48E
          generalize h48w : pw_w h41 125 29 (.long (Int64.ofInt ((pw_gm h41 125 29) + 0))) = h48 at h48I h48E ⊢
          have h48F := h41F.tr (h48E.wk (W' := [125]) (by first | rfl | simp))
          have he49 : pw_gm h48 125 26 = pw_gm h41 125 26 := by rw [← h48w]; exact pw_gm_ne (by omega)
          have he50 : pw_gm h41 125 26 = pw_gm h36 125 26 := by rw [← h41w]; exact pw_gm_ne (by omega)
          have he51 : pw_gm h36 125 26 = pw_gm h31 125 26 := by rw [← h36w]; exact pw_gm_ne (by omega)
          have he52 : pw_gm h31 125 26 = (pw_gm h 125 26) + ch := by rw [← h31w]; exact pw_gm_eq (c := 125) (k := 26) I rfl rfl (by omega) (by omega)
          have he53 : pw_gm h48 125 27 = pw_gm h41 125 27 := by rw [← h48w]; exact pw_gm_ne (by omega)
          have he54 : pw_gm h41 125 27 = pw_gm h36 125 27 := by rw [← h41w]; exact pw_gm_ne (by omega)
          have he55 : pw_gm h36 125 27 = (pw_gm h31 125 27) + 1 := by rw [← h36w]; exact pw_gm_eq (c := 125) (k := 27) h31I rfl rfl (by omega) (by omega)
          have he56 : pw_gm h48 125 28 = pw_gm h41 125 28 := by rw [← h48w]; exact pw_gm_ne (by omega)
          have he57 : pw_gm h41 125 28 = (pw_gm h36 125 28) + 0 := by rw [← h41w]; exact pw_gm_eq (c := 125) (k := 28) h36I rfl rfl (by omega) (by omega)
          have he58 : pw_gm h48 125 29 = (pw_gm h41 125 29) + 0 := by rw [← h48w]; exact pw_gm_eq (c := 125) (k := 29) h41I rfl rfl (by omega) (by omega)
          refine pw_vret E rfl ?_
          exact ⟨h48I, h48F, ⟨⟨fun _ => by omega, fun _ => by omega⟩, rfl⟩⟩
set_option maxHeartbeats 4000000 in
theorem cm_221_s {X : List (Nat × List Value)} {d : Nat} {h : pm_H} (hd : 1 ≤ d) (I : pw_I h) (hp0 : 0 ≤ pw_gm h 125 27) (hp1 : pw_gm h 125 27 ≤ 24) (hp2 : 0 ≤ pw_gm h 125 29) (hp3 : pw_gm h 125 29 ≤ 24) (hp4 : (-48000) ≤ pw_gm h 125 26) (hp5 : pw_gm h 125 26 ≤ 48000) (hp6 : (-48000) ≤ pw_gm h 125 28) (hp7 : pw_gm h 125 28 ≤ 48000) : pw X d h 221 0 [some (.ref 141)] [] (fun h' v => pw_I h' ∧ pw_E [125] h h' ∧ ∃ a : Int, v = .inl (some (pw_i a)) ∧ 0 ≤ a ∧ a ≤ 1 ∧ (((a = 1 ∧ 0 < pw_gm h 125 27 * pw_gm h 125 29) ∨ (a = 0 ∧ pw_gm h 125 27 * pw_gm h 125 29 ≤ 0)) ∧ pw_gm h' 125 24 = pw_gm h 125 26 * pw_gm h 125 29 - pw_gm h 125 28 * pw_gm h 125 27 ∧ pw_gm h' 125 25 = pw_gm h 125 27 * pw_gm h 125 29 ∧ pw_gm h' 125 26 = pw_gm h 125 26 ∧ pw_gm h' 125 27 = pw_gm h 125 27 ∧ pw_gm h' 125 28 = pw_gm h 125 28 ∧ pw_gm h' 125 29 = pw_gm h 125 29)) := by
  have E : pm_ent 221 = some (1, 1, 12, 1, pmc_221) := rfl
  have E0 : pw_E [125] h h := pw_E.rf _ _
  refine pw_ld E (pc' := 1) (st' := [.ref 141]) rfl (fun _ => rfl) ?_
  refine pw_ld E (pc' := 2) (st' := [.ref 141, .ref 141]) rfl (fun _ => rfl) ?_
  refine pw_getLM I E (c := 125) (k := 26) (pc' := 5) rfl rfl rfl rfl rfl rfl ?_
  refine pw_ld E (pc' := 6) (st' := [.ref 141, .long (Int64.ofInt (pw_gm h 125 26)), .ref 141]) rfl (fun _ => rfl) ?_
  refine pw_getM I E (c := 125) (k := 29) (pc' := 9) rfl rfl rfl rfl rfl rfl (fun hf1a hf1b => ?_)
  have hm2 := pw_mulS (a := pw_gm h 125 26) (b := pw_gm h 125 29) (A := 48000) (B := 24) (by omega) (by omega) (by omega) (by omega)
  refine pw_lmul E (pc' := 10) rfl rfl ?_
  refine pw_ld E (pc' := 11) (st' := [.ref 141, .long (Int64.ofInt ((pw_gm h 125 26) * (pw_gm h 125 29))), .ref 141]) rfl (fun _ => rfl) ?_
  refine pw_getLM I E (c := 125) (k := 28) (pc' := 14) rfl rfl rfl rfl rfl rfl ?_
  refine pw_ld E (pc' := 15) (st' := [.ref 141, .long (Int64.ofInt (pw_gm h 125 28)), .long (Int64.ofInt ((pw_gm h 125 26) * (pw_gm h 125 29))), .ref 141]) rfl (fun _ => rfl) ?_
  refine pw_getM I E (c := 125) (k := 27) (pc' := 18) rfl rfl rfl rfl rfl rfl (fun hf3a hf3b => ?_)
  have hm4 := pw_mulS (a := pw_gm h 125 28) (b := pw_gm h 125 27) (A := 48000) (B := 24) (by omega) (by omega) (by omega) (by omega)
  refine pw_lmul E (pc' := 19) rfl rfl ?_
  refine pw_lsub E (pc' := 20) rfl rfl ?_
  refine pw_putL I E (c := 125) (k := 24) (pc' := 23) rfl rfl rfl rfl rfl rfl ?_
  intro h5I h5E
  generalize h5w : pw_w h 125 24 (.long (Int64.ofInt (((pw_gm h 125 26) * (pw_gm h 125 29)) - ((pw_gm h 125 28) * (pw_gm h 125 27))))) = h5 at h5I h5E ⊢
  have h5F := E0.tr (h5E.wk (W' := [125]) (by first | rfl | simp))
  refine pw_ld E (pc' := 24) (st' := [.ref 141]) rfl (fun _ => rfl) ?_
  refine pw_ld E (pc' := 25) (st' := [.ref 141, .ref 141]) rfl (fun _ => rfl) ?_
  have he7 : pw_gm h5 125 27 = pw_gm h 125 27 := by rw [← h5w]; exact pw_gm_ne (by omega)
  refine pw_getM h5I E (c := 125) (k := 27) (pc' := 28) rfl rfl rfl rfl rfl rfl (fun hf6a hf6b => ?_)
  refine pw_ld E (pc' := 29) (st' := [.ref 141, .long (Int64.ofInt (pw_gm h5 125 27)), .ref 141]) rfl (fun _ => rfl) ?_
  have he9 : pw_gm h5 125 29 = pw_gm h 125 29 := by rw [← h5w]; exact pw_gm_ne (by omega)
  refine pw_getM h5I E (c := 125) (k := 29) (pc' := 32) rfl rfl rfl rfl rfl rfl (fun hf8a hf8b => ?_)
  have hm10 := pw_mulB (a := pw_gm h5 125 27) (b := pw_gm h5 125 29) (A := 24) (B := 24) (by omega) (by omega) (by omega) (by omega)
  refine pw_lmul E (pc' := 33) rfl rfl ?_
  have eD : (pw_gm h5 125 27) * (pw_gm h5 125 29) = pw_gm h 125 27 * pw_gm h 125 29 := by rw [show pw_gm h5 125 27 = pw_gm h 125 27 by omega, show pw_gm h5 125 29 = pw_gm h 125 29 by omega]
  refine pw_putM h5I E (c := 125) (k := 25) (pc' := 36) rfl rfl rfl rfl (by omega) (by omega) (by omega) (by omega) rfl rfl ?_
  intro h11I h11E
  generalize h11w : pw_w h5 125 25 (.long (Int64.ofInt ((pw_gm h5 125 27) * (pw_gm h5 125 29)))) = h11 at h11I h11E ⊢
  have h11F := h5F.tr (h11E.wk (W' := [125]) (by first | rfl | simp))
  refine pw_ld E (pc' := 37) (st' := [.ref 141]) rfl (fun _ => rfl) ?_
  have he13 : pw_gm h11 125 25 = (pw_gm h5 125 27) * (pw_gm h5 125 29) := by rw [← h11w]; exact pw_gm_eq (c := 125) (k := 25) h5I rfl rfl (by omega) (by omega)
  refine pw_getM h11I E (c := 125) (k := 25) (pc' := 40) rfl rfl rfl rfl rfl rfl (fun hf12a hf12b => ?_)
  refine pw_ld E (pc' := 41) (st' := [.long (Int64.ofInt 0), .long (Int64.ofInt (pw_gm h11 125 25))]) rfl (fun _ => rfl) ?_
  refine pw_lcmpC E (pc' := 42) rfl rfl (by omega) (by omega) (by omega) (by omega) (fun c14 hc14 => ?_)
  refine pw_if E (pc' := 49) rfl (by decide) (by omega) (by omega) ?_ ?_
  · intro hc15
    change c14 ≤ (0 : Int) at hc15
    refine pw_ld E (pc' := 50) (st' := [pw_i 0]) rfl (fun _ => rfl) ?_
    have he16 : pw_gm h11 125 24 = pw_gm h5 125 24 := by rw [← h11w]; exact pw_gm_ne (by omega)
    have he17 : pw_gm h5 125 24 = ((pw_gm h 125 26) * (pw_gm h 125 29)) - ((pw_gm h 125 28) * (pw_gm h 125 27)) := by rw [← h5w]; exact pw_gm_eq (c := 125) (k := 24) I rfl rfl (by omega) (by omega)
    have he18 : pw_gm h11 125 26 = pw_gm h5 125 26 := by rw [← h11w]; exact pw_gm_ne (by omega)
    have he19 : pw_gm h5 125 26 = pw_gm h 125 26 := by rw [← h5w]; exact pw_gm_ne (by omega)
    have he20 : pw_gm h11 125 27 = pw_gm h5 125 27 := by rw [← h11w]; exact pw_gm_ne (by omega)
    have he21 : pw_gm h11 125 28 = pw_gm h5 125 28 := by rw [← h11w]; exact pw_gm_ne (by omega)
    have he22 : pw_gm h5 125 28 = pw_gm h 125 28 := by rw [← h5w]; exact pw_gm_ne (by omega)
    have he23 : pw_gm h11 125 29 = pw_gm h5 125 29 := by rw [← h11w]; exact pw_gm_ne (by omega)
    refine pw_zret E rfl (by omega) ?_
    exact ⟨h11I, h11F, ⟨_, rfl, by omega, by omega, by omega, by omega, by omega, by omega, by omega, by omega, by omega⟩⟩
  · intro hc24
    change ¬ (c14 ≤ (0 : Int)) at hc24
    refine pw_ld E (pc' := 46) (st' := [pw_i 1]) rfl (fun _ => rfl) ?_
    refine pw_goto E (pc' := 50) rfl (by decide) ?_
    have he25 : pw_gm h11 125 24 = pw_gm h5 125 24 := by rw [← h11w]; exact pw_gm_ne (by omega)
    have he26 : pw_gm h5 125 24 = ((pw_gm h 125 26) * (pw_gm h 125 29)) - ((pw_gm h 125 28) * (pw_gm h 125 27)) := by rw [← h5w]; exact pw_gm_eq (c := 125) (k := 24) I rfl rfl (by omega) (by omega)
    have he27 : pw_gm h11 125 26 = pw_gm h5 125 26 := by rw [← h11w]; exact pw_gm_ne (by omega)
    have he28 : pw_gm h5 125 26 = pw_gm h 125 26 := by rw [← h5w]; exact pw_gm_ne (by omega)
    have he29 : pw_gm h11 125 27 = pw_gm h5 125 27 := by rw [← h11w]; exact pw_gm_ne (by omega)
    have he30 : pw_gm h11 125 28 = pw_gm h5 125 28 := by rw [← h11w]; exact pw_gm_ne (by omega)
    have he31 : pw_gm h5 125 28 = pw_gm h 125 28 := by rw [← h5w]; exact pw_gm_ne (by omega)
    have he32 : pw_gm h11 125 29 = pw_gm h5 125 29 := by rw [← h11w]; exact pw_gm_ne (by omega)
    refine pw_zret E rfl (by omega) ?_
    exact ⟨h11I, h11F, ⟨_, rfl, by omega, by omega, by omega, by omega, by omega, by omega, by omega, by omega, by omega⟩⟩
end
section
/-! bounds: what they are (printed by wip/tool/mbnd.py) -/
def pv_sdb (h : pm_H) (k : Nat) : Int := if pw_g h 2 k = 1 then pw_g h 4 k else -1
theorem pv_sdb_I {h : pm_H} {k : Int} (hk : 0 ≤ k) : ((pw_g h 2 k.toNat = 1) → pv_sdb h k.toNat = pw_g h 4 k.toNat) ∧ (¬ (pw_g h 2 k.toNat = 1) → pv_sdb h k.toNat = -1) := by
  have e : ((k.toNat : Nat) : Int) = k := by omega
  unfold pv_sdb
  try rw [e]
  exact ⟨fun q => if_pos q, fun q => if_neg q⟩
def pv_sdbm (h : pm_H) (k : Nat) : Int := if pw_g h 131 k ≠ 0 then pw_g h 132 k else -1
theorem pv_sdbm_I {h : pm_H} {k : Int} (hk : 0 ≤ k) : ((pw_g h 131 k.toNat ≠ 0) → pv_sdbm h k.toNat = pw_g h 132 k.toNat) ∧ (¬ (pw_g h 131 k.toNat ≠ 0) → pv_sdbm h k.toNat = -1) := by
  have e : ((k.toNat : Nat) : Int) = k := by omega
  unfold pv_sdbm
  try rw [e]
  exact ⟨fun q => if_pos q, fun q => if_neg q⟩
def pv_mh (h : pm_H) (k mo z : Int) : Int := if pw_g h 138 (12 * k + mo).toNat ≠ 0 then pv_hmk h mo k else if z = 1 then 10 * pw_g h 134 k.toNat else 0
theorem pv_mhI {h : pm_H} {k mo z : Int} : (pw_g h 138 (12 * k + mo).toNat ≠ 0 → pv_mh h k mo z = pv_hmk h mo k) ∧ (pw_g h 138 (12 * k + mo).toNat = 0 → z = 1 → pv_mh h k mo z = 10 * pw_g h 134 k.toNat) ∧ (pw_g h 138 (12 * k + mo).toNat = 0 → z ≠ 1 → pv_mh h k mo z = 0) := by
  unfold pv_mh
  exact ⟨fun q => if_pos q, fun q r => by rw [if_neg (fun w => w q), if_pos r], fun q r => by rw [if_neg (fun w => w q), if_neg r]⟩
theorem pv_hmkE {W : List Nat} {h h' : pm_H} {k mo : Int} (I : pw_I h) (E : pw_E W h h') (hn : (W.contains 1015 || (W.contains 139 || W.contains 140)) = false) : pv_hmk h' mo k = pv_hmk h mo k := by
  obtain ⟨h1, h2⟩ := Bool.or_eq_false_iff.mp hn
  obtain ⟨h2, h3⟩ := Bool.or_eq_false_iff.mp h2
  unfold pv_hmk
  rw [pw_Ef E (Or.inr (Or.inl rfl)) h1, pw_Eg (c := 139) I E rfl h2, pw_Eg (c := 140) I E rfl h3]
theorem pv_mhE {W : List Nat} {h h' : pm_H} {k mo z : Int} (I : pw_I h) (E : pw_E W h h') (hn : ((W.contains 134 || W.contains 138) || (W.contains 1015 || (W.contains 139 || W.contains 140))) = false) : pv_mh h' k mo z = pv_mh h k mo z := by
  obtain ⟨h1, h2⟩ := Bool.or_eq_false_iff.mp hn
  obtain ⟨h1, h3⟩ := Bool.or_eq_false_iff.mp h1
  unfold pv_mh
  rw [pv_hmkE I E h2, pw_Eg (c := 134) I E rfl h1, pw_Eg (c := 138) I E rfl h3]
def pv_chbm (h : pm_H) (sg b e : Int) (k : Nat) : Int := if (pw_g h 132 k = 0 ∧ 0 < sg) ∨ (pw_g h 132 k ≠ 0 ∧ sg < 0) then pv_mh h (k : Int) e 1 - pv_mh h (k : Int) b 0 else pv_mh h (k : Int) e 0 - pv_mh h (k : Int) b 1
theorem pv_chbm_I {h : pm_H} {sg b e : Int} {k : Int} (hk : 0 ≤ k) : (((pw_g h 132 k.toNat = 0 ∧ 0 < sg) ∨ (pw_g h 132 k.toNat ≠ 0 ∧ sg < 0)) → pv_chbm h sg b e k.toNat = pv_mh h k e 1 - pv_mh h k b 0) ∧ (¬ ((pw_g h 132 k.toNat = 0 ∧ 0 < sg) ∨ (pw_g h 132 k.toNat ≠ 0 ∧ sg < 0)) → pv_chbm h sg b e k.toNat = pv_mh h k e 0 - pv_mh h k b 1) := by
  have e : ((k.toNat : Nat) : Int) = k := by omega
  unfold pv_chbm
  try rw [e]
  exact ⟨fun q => if_pos q, fun q => if_neg q⟩
theorem pv_sdbmE {W : List Nat} {h h' : pm_H} (I : pw_I h) (E : pw_E W h h') (hn : (W.contains 131 || W.contains 132) = false) : pv_sdbm h' = pv_sdbm h := by
  obtain ⟨h1, h2⟩ := Bool.or_eq_false_iff.mp hn
  refine funext (fun k => ?_)
  unfold pv_sdbm
  rw [pw_Eg (c := 131) I E rfl h1, pw_Eg (c := 132) I E rfl h2]
theorem pv_chbmE {W : List Nat} {h h' : pm_H} {sg b e : Int} (I : pw_I h) (E : pw_E W h h') (hn : (W.contains 132 || ((W.contains 134 || W.contains 138) || (W.contains 1015 || (W.contains 139 || W.contains 140)))) = false) : pv_chbm h' sg b e = pv_chbm h sg b e := by
  obtain ⟨h1, h2⟩ := Bool.or_eq_false_iff.mp hn
  refine funext (fun k => ?_)
  unfold pv_chbm
  rw [pw_Eg (c := 132) I E rfl h1, pv_mhE I E h2, pv_mhE I E h2, pv_mhE I E h2, pv_mhE I E h2]
end
section
/-! bounds, exactly -/
set_option maxHeartbeats 4000000 in
theorem cm_227_s {X : List (Nat × List Value)} {d : Nat} {h : pm_H} (hd : 3 ≤ d) (I : pw_I h) (k : Int) (hk1 : 0 ≤ k) (hk2 : k ≤ 23) (b : Int) (hb1 : 0 ≤ b) (hb2 : b ≤ 11) (e : Int) (he1 : 0 ≤ e) (he2 : e ≤ 11) (sg : Int) (hsg1 : (-1) ≤ sg) (hsg2 : sg ≤ 1) : pw X d h 227 0 [some (.ref 141), some (pw_i k), some (pw_i b), some (pw_i e), some (pw_i sg), none] [] (fun h' v => h = h' ∧ ∃ a : Int, v = .inl (some (pw_i a)) ∧ (-2000) ≤ a ∧ a ≤ 2000 ∧ ((0 < sg → a = pv_mh h k e 1 - pv_mh h k b 0) ∧ (¬ (0 < sg) → a = pv_mh h k e 0 - pv_mh h k b 1))) := by
  have E : pm_ent 227 = some (5, 6, 12, 0, pmc_227) := rfl
  refine pw_ld E (pc' := 1) (st' := [pw_i 0]) rfl (fun _ => rfl) ?_
  refine pw_ist E (pc' := 3) (ls' := [some (.ref 141), some (pw_i k), some (pw_i b), some (pw_i e), some (pw_i sg), some (pw_i 0)]) rfl rfl rfl rfl ?_
  refine pw_ld E (pc' := 4) (st' := [.ref 141]) rfl (fun _ => rfl) ?_
  refine pw_getR (b := 154) I E (c := 125) (k := 18) (pc' := 7) rfl rfl rfl rfl rfl rfl rfl ?_
  refine pw_bip E (pc' := 9) rfl rfl (by decide) ?_
  refine pw_ld E (pc' := 10) (st' := [pw_i k, pw_i 12, .ref 154]) rfl (fun _ => rfl) ?_
  refine pw_mul E (pc' := 11) rfl rfl ?_
  refine pw_ld E (pc' := 12) (st' := [pw_i e, pw_i (12 * k), .ref 154]) rfl (fun _ => rfl) ?_
  refine pw_add E (pc' := 13) rfl rfl ?_
  refine pw_ald2 I E (c := 138) (pc' := 14) rfl rfl rfl (by decide) rfl (by decide) (by omega) (by omega) rfl (fun hf1a hf1b => ?_)
  refine pw_if E (pc' := 43) rfl (by decide) (by omega) (by omega) ?_ ?_
  · intro hc2
    change pw_g h 138 (((12 * k) + e).toNat) ≠ (0 : Int) at hc2
    refine pw_ld E (pc' := 45) (st' := [pw_i 0]) rfl (fun _ => rfl) ?_
    refine pw_ld E (pc' := 46) (st' := [.ref 141, pw_i 0]) rfl (fun _ => rfl) ?_
    refine pw_ld E (pc' := 47) (st' := [pw_i k, .ref 141, pw_i 0]) rfl (fun _ => rfl) ?_
    refine pw_ld E (pc' := 48) (st' := [pw_i e, pw_i k, .ref 141, pw_i 0]) rfl (fun _ => rfl) ?_
    obtain ⟨f3l, f3h, -⟩ := pw_obj (c := 125) I rfl
    refine pw_call (m' := 210) (As := [.ref 141, pw_i k, pw_i e]) (rest := [pw_i 0]) (ls'' := [some (.ref 141), some (pw_i k), some (pw_i e)]) (Nat.le_trans (by decide) hd) E rfl (fun _ => pw_iV rfl rfl rfl rfl (pw_cellI f3h rfl)) (rfl : pm_ent 210 = some (3, 3, 12, 0, pmc_210)) rfl rfl (cm_210_h (pw_dp hd (by decide)) I (k) (by omega) (by omega) (e) (by omega) (by omega)) ?_
    rintro u5 v4 ⟨rfl, x6, rfl, hx6a, hx6b, hx6r⟩
    refine ⟨_, rfl, ?_⟩
    show pw X d h 227 51 [some (.ref 141), some (pw_i k), some (pw_i b), some (pw_i e), some (pw_i sg), some (pw_i 0)] [pw_i x6, pw_i 0] _
    change x6 = 10 * pw_g h 139 (12 * k + e).toNat + pw_g h 125 15 * pw_g h 140 (12 * k + e).toNat at hx6r
    refine pw_add E (pc' := 52) rfl rfl ?_
    refine pw_ist E (pc' := 54) (ls' := [some (.ref 141), some (pw_i k), some (pw_i b), some (pw_i e), some (pw_i sg), some (pw_i (0 + x6))]) rfl rfl rfl rfl ?_
    refine pw_ld E (pc' := 55) (st' := [.ref 141]) rfl (fun _ => rfl) ?_
    refine pw_getR (b := 154) I E (c := 125) (k := 18) (pc' := 58) rfl rfl rfl rfl rfl rfl rfl ?_
    refine pw_bip E (pc' := 60) rfl rfl (by decide) ?_
    refine pw_ld E (pc' := 61) (st' := [pw_i k, pw_i 12, .ref 154]) rfl (fun _ => rfl) ?_
    refine pw_mul E (pc' := 62) rfl rfl ?_
    refine pw_ld E (pc' := 63) (st' := [pw_i b, pw_i (12 * k), .ref 154]) rfl (fun _ => rfl) ?_
    refine pw_add E (pc' := 64) rfl rfl ?_
    refine pw_ald2 I E (c := 138) (pc' := 65) rfl rfl rfl (by decide) rfl (by decide) (by omega) (by omega) rfl (fun hf7a hf7b => ?_)
    refine pw_if E (pc' := 94) rfl (by decide) (by omega) (by omega) ?_ ?_
    · intro hc8
      change pw_g h 138 (((12 * k) + b).toNat) ≠ (0 : Int) at hc8
      refine pw_ld E (pc' := 96) (st' := [pw_i (0 + x6)]) rfl (fun _ => rfl) ?_
      refine pw_ld E (pc' := 97) (st' := [.ref 141, pw_i (0 + x6)]) rfl (fun _ => rfl) ?_
      refine pw_ld E (pc' := 98) (st' := [pw_i k, .ref 141, pw_i (0 + x6)]) rfl (fun _ => rfl) ?_
      refine pw_ld E (pc' := 99) (st' := [pw_i b, pw_i k, .ref 141, pw_i (0 + x6)]) rfl (fun _ => rfl) ?_
      obtain ⟨f9l, f9h, -⟩ := pw_obj (c := 125) I rfl
      refine pw_call (m' := 210) (As := [.ref 141, pw_i k, pw_i b]) (rest := [pw_i (0 + x6)]) (ls'' := [some (.ref 141), some (pw_i k), some (pw_i b)]) (Nat.le_trans (by decide) hd) E rfl (fun _ => pw_iV rfl rfl rfl rfl (pw_cellI f9h rfl)) (rfl : pm_ent 210 = some (3, 3, 12, 0, pmc_210)) rfl rfl (cm_210_h (pw_dp hd (by decide)) I (k) (by omega) (by omega) (b) (by omega) (by omega)) ?_
      rintro u11 v10 ⟨rfl, x12, rfl, hx12a, hx12b, hx12r⟩
      refine ⟨_, rfl, ?_⟩
      show pw X d h 227 102 [some (.ref 141), some (pw_i k), some (pw_i b), some (pw_i e), some (pw_i sg), some (pw_i (0 + x6))] [pw_i x12, pw_i (0 + x6)] _
      change x12 = 10 * pw_g h 139 (12 * k + b).toNat + pw_g h 125 15 * pw_g h 140 (12 * k + b).toNat at hx12r
      refine pw_sub E (pc' := 103) rfl rfl ?_
      refine pw_ist E (pc' := 105) (ls' := [some (.ref 141), some (pw_i k), some (pw_i b), some (pw_i e), some (pw_i sg), some (pw_i ((0 + x6) - x12))]) rfl rfl rfl rfl ?_
      refine pw_ld E (pc' := 107) (st' := [pw_i ((0 + x6) - x12)]) rfl (fun _ => rfl) ?_
      refine pw_iret E rfl ?_
      have hye : x6 = pv_hmk h e k := hx6r
      have me0 : pv_mh h k e 0 = pv_hmk h e k := pv_mhI.1 (by omega)
      have me1 : pv_mh h k e 1 = pv_hmk h e k := pv_mhI.1 (by omega)
      have hyb : x12 = pv_hmk h b k := hx12r
      have mb0 : pv_mh h k b 0 = pv_hmk h b k := pv_mhI.1 (by omega)
      have mb1 : pv_mh h k b 1 = pv_hmk h b k := pv_mhI.1 (by omega)
      exact ⟨rfl, ⟨_, rfl, by omega, by omega, ⟨fun _ => by omega, fun _ => by omega⟩⟩⟩
    · intro hc13
      change ¬ (pw_g h 138 (((12 * k) + b).toNat) ≠ (0 : Int)) at hc13
      refine pw_ld E (pc' := 70) (st' := [pw_i (0 + x6)]) rfl (fun _ => rfl) ?_
      refine pw_ld E (pc' := 72) (st' := [pw_i sg, pw_i (0 + x6)]) rfl (fun _ => rfl) ?_
      refine pw_if E (pc' := 79) rfl (by decide) (by omega) (by omega) ?_ ?_
      · intro hc14
        change sg ≤ (0 : Int) at hc14
        refine pw_bip E (pc' := 81) rfl rfl (by decide) ?_
        refine pw_ld E (pc' := 82) (st' := [.ref 141, pw_i 10, pw_i (0 + x6)]) rfl (fun _ => rfl) ?_
        refine pw_getR (b := 150) I E (c := 125) (k := 13) (pc' := 85) rfl rfl rfl rfl rfl rfl rfl ?_
        refine pw_ld E (pc' := 86) (st' := [pw_i k, .ref 150, pw_i 10, pw_i (0 + x6)]) rfl (fun _ => rfl) ?_
        refine pw_ald2 I E (c := 134) (pc' := 87) rfl rfl rfl (by decide) rfl (by decide) (by omega) (by omega) rfl (fun hf15a hf15b => ?_)
        refine pw_mul E (pc' := 88) rfl rfl ?_
        refine pw_sub E (pc' := 89) rfl rfl ?_
        refine pw_ist E (pc' := 91) (ls' := [some (.ref 141), some (pw_i k), some (pw_i b), some (pw_i e), some (pw_i sg), some (pw_i ((0 + x6) - (10 * (pw_g h 134 (k.toNat)))))]) rfl rfl rfl rfl ?_
        refine pw_goto E (pc' := 105) rfl (by decide) ?_
        refine pw_ld E (pc' := 107) (st' := [pw_i ((0 + x6) - (10 * (pw_g h 134 (k.toNat))))]) rfl (fun _ => rfl) ?_
        refine pw_iret E rfl ?_
        have hye : x6 = pv_hmk h e k := hx6r
        have me0 : pv_mh h k e 0 = pv_hmk h e k := pv_mhI.1 (by omega)
        have me1 : pv_mh h k e 1 = pv_hmk h e k := pv_mhI.1 (by omega)
        have mb0 : pv_mh h k b 0 = 0 := pv_mhI.2.2 (by omega) (by decide)
        have mb1 : pv_mh h k b 1 = 10 * pw_g h 134 k.toNat := pv_mhI.2.1 (by omega) rfl
        exact ⟨rfl, ⟨_, rfl, by omega, by omega, ⟨fun _ => by omega, fun _ => by omega⟩⟩⟩
      · intro hc16
        change ¬ (sg ≤ (0 : Int)) at hc16
        refine pw_ld E (pc' := 76) (st' := [pw_i 0, pw_i (0 + x6)]) rfl (fun _ => rfl) ?_
        refine pw_goto E (pc' := 88) rfl (by decide) ?_
        refine pw_sub E (pc' := 89) rfl rfl ?_
        refine pw_ist E (pc' := 91) (ls' := [some (.ref 141), some (pw_i k), some (pw_i b), some (pw_i e), some (pw_i sg), some (pw_i ((0 + x6) - 0))]) rfl rfl rfl rfl ?_
        refine pw_goto E (pc' := 105) rfl (by decide) ?_
        refine pw_ld E (pc' := 107) (st' := [pw_i ((0 + x6) - 0)]) rfl (fun _ => rfl) ?_
        refine pw_iret E rfl ?_
        have hye : x6 = pv_hmk h e k := hx6r
        have me0 : pv_mh h k e 0 = pv_hmk h e k := pv_mhI.1 (by omega)
        have me1 : pv_mh h k e 1 = pv_hmk h e k := pv_mhI.1 (by omega)
        have mb0 : pv_mh h k b 0 = 0 := pv_mhI.2.2 (by omega) (by decide)
        have mb1 : pv_mh h k b 1 = 10 * pw_g h 134 k.toNat := pv_mhI.2.1 (by omega) rfl
        exact ⟨rfl, ⟨_, rfl, by omega, by omega, ⟨fun _ => by omega, fun _ => by omega⟩⟩⟩
  · intro hc17
    change ¬ (pw_g h 138 (((12 * k) + e).toNat) ≠ (0 : Int)) at hc17
    refine pw_ld E (pc' := 19) (st' := [pw_i 0]) rfl (fun _ => rfl) ?_
    refine pw_ld E (pc' := 21) (st' := [pw_i sg, pw_i 0]) rfl (fun _ => rfl) ?_
    refine pw_if E (pc' := 36) rfl (by decide) (by omega) (by omega) ?_ ?_
    · intro hc18
      change sg ≤ (0 : Int) at hc18
      refine pw_ld E (pc' := 37) (st' := [pw_i 0, pw_i 0]) rfl (fun _ => rfl) ?_
      refine pw_add E (pc' := 38) rfl rfl ?_
      refine pw_ist E (pc' := 40) (ls' := [some (.ref 141), some (pw_i k), some (pw_i b), some (pw_i e), some (pw_i sg), some (pw_i (0 + 0))]) rfl rfl rfl rfl ?_
      refine pw_goto E (pc' := 54) rfl (by decide) ?_
      refine pw_ld E (pc' := 55) (st' := [.ref 141]) rfl (fun _ => rfl) ?_
      refine pw_getR (b := 154) I E (c := 125) (k := 18) (pc' := 58) rfl rfl rfl rfl rfl rfl rfl ?_
      refine pw_bip E (pc' := 60) rfl rfl (by decide) ?_
      refine pw_ld E (pc' := 61) (st' := [pw_i k, pw_i 12, .ref 154]) rfl (fun _ => rfl) ?_
      refine pw_mul E (pc' := 62) rfl rfl ?_
      refine pw_ld E (pc' := 63) (st' := [pw_i b, pw_i (12 * k), .ref 154]) rfl (fun _ => rfl) ?_
      refine pw_add E (pc' := 64) rfl rfl ?_
      refine pw_ald2 I E (c := 138) (pc' := 65) rfl rfl rfl (by decide) rfl (by decide) (by omega) (by omega) rfl (fun hf19a hf19b => ?_)
      refine pw_if E (pc' := 94) rfl (by decide) (by omega) (by omega) ?_ ?_
      · intro hc20
        change pw_g h 138 (((12 * k) + b).toNat) ≠ (0 : Int) at hc20
        refine pw_ld E (pc' := 96) (st' := [pw_i (0 + 0)]) rfl (fun _ => rfl) ?_
        refine pw_ld E (pc' := 97) (st' := [.ref 141, pw_i (0 + 0)]) rfl (fun _ => rfl) ?_
        refine pw_ld E (pc' := 98) (st' := [pw_i k, .ref 141, pw_i (0 + 0)]) rfl (fun _ => rfl) ?_
        refine pw_ld E (pc' := 99) (st' := [pw_i b, pw_i k, .ref 141, pw_i (0 + 0)]) rfl (fun _ => rfl) ?_
        obtain ⟨f21l, f21h, -⟩ := pw_obj (c := 125) I rfl
        refine pw_call (m' := 210) (As := [.ref 141, pw_i k, pw_i b]) (rest := [pw_i (0 + 0)]) (ls'' := [some (.ref 141), some (pw_i k), some (pw_i b)]) (Nat.le_trans (by decide) hd) E rfl (fun _ => pw_iV rfl rfl rfl rfl (pw_cellI f21h rfl)) (rfl : pm_ent 210 = some (3, 3, 12, 0, pmc_210)) rfl rfl (cm_210_h (pw_dp hd (by decide)) I (k) (by omega) (by omega) (b) (by omega) (by omega)) ?_
        rintro u23 v22 ⟨rfl, x24, rfl, hx24a, hx24b, hx24r⟩
        refine ⟨_, rfl, ?_⟩
        show pw X d h 227 102 [some (.ref 141), some (pw_i k), some (pw_i b), some (pw_i e), some (pw_i sg), some (pw_i (0 + 0))] [pw_i x24, pw_i (0 + 0)] _
        change x24 = 10 * pw_g h 139 (12 * k + b).toNat + pw_g h 125 15 * pw_g h 140 (12 * k + b).toNat at hx24r
        refine pw_sub E (pc' := 103) rfl rfl ?_
        refine pw_ist E (pc' := 105) (ls' := [some (.ref 141), some (pw_i k), some (pw_i b), some (pw_i e), some (pw_i sg), some (pw_i ((0 + 0) - x24))]) rfl rfl rfl rfl ?_
        refine pw_ld E (pc' := 107) (st' := [pw_i ((0 + 0) - x24)]) rfl (fun _ => rfl) ?_
        refine pw_iret E rfl ?_
        have me0 : pv_mh h k e 0 = 0 := pv_mhI.2.2 (by omega) (by decide)
        have me1 : pv_mh h k e 1 = 10 * pw_g h 134 k.toNat := pv_mhI.2.1 (by omega) rfl
        have hyb : x24 = pv_hmk h b k := hx24r
        have mb0 : pv_mh h k b 0 = pv_hmk h b k := pv_mhI.1 (by omega)
        have mb1 : pv_mh h k b 1 = pv_hmk h b k := pv_mhI.1 (by omega)
        exact ⟨rfl, ⟨_, rfl, by omega, by omega, ⟨fun _ => by omega, fun _ => by omega⟩⟩⟩
      · intro hc25
        change ¬ (pw_g h 138 (((12 * k) + b).toNat) ≠ (0 : Int)) at hc25
        refine pw_ld E (pc' := 70) (st' := [pw_i (0 + 0)]) rfl (fun _ => rfl) ?_
        refine pw_ld E (pc' := 72) (st' := [pw_i sg, pw_i (0 + 0)]) rfl (fun _ => rfl) ?_
        refine pw_if E (pc' := 79) rfl (by decide) (by omega) (by omega) ?_ ?_
        · intro hc26
          change sg ≤ (0 : Int) at hc26
          refine pw_bip E (pc' := 81) rfl rfl (by decide) ?_
          refine pw_ld E (pc' := 82) (st' := [.ref 141, pw_i 10, pw_i (0 + 0)]) rfl (fun _ => rfl) ?_
          refine pw_getR (b := 150) I E (c := 125) (k := 13) (pc' := 85) rfl rfl rfl rfl rfl rfl rfl ?_
          refine pw_ld E (pc' := 86) (st' := [pw_i k, .ref 150, pw_i 10, pw_i (0 + 0)]) rfl (fun _ => rfl) ?_
          refine pw_ald2 I E (c := 134) (pc' := 87) rfl rfl rfl (by decide) rfl (by decide) (by omega) (by omega) rfl (fun hf27a hf27b => ?_)
          refine pw_mul E (pc' := 88) rfl rfl ?_
          refine pw_sub E (pc' := 89) rfl rfl ?_
          refine pw_ist E (pc' := 91) (ls' := [some (.ref 141), some (pw_i k), some (pw_i b), some (pw_i e), some (pw_i sg), some (pw_i ((0 + 0) - (10 * (pw_g h 134 (k.toNat)))))]) rfl rfl rfl rfl ?_
          refine pw_goto E (pc' := 105) rfl (by decide) ?_
          refine pw_ld E (pc' := 107) (st' := [pw_i ((0 + 0) - (10 * (pw_g h 134 (k.toNat))))]) rfl (fun _ => rfl) ?_
          refine pw_iret E rfl ?_
          have me0 : pv_mh h k e 0 = 0 := pv_mhI.2.2 (by omega) (by decide)
          have me1 : pv_mh h k e 1 = 10 * pw_g h 134 k.toNat := pv_mhI.2.1 (by omega) rfl
          have mb0 : pv_mh h k b 0 = 0 := pv_mhI.2.2 (by omega) (by decide)
          have mb1 : pv_mh h k b 1 = 10 * pw_g h 134 k.toNat := pv_mhI.2.1 (by omega) rfl
          exact ⟨rfl, ⟨_, rfl, by omega, by omega, ⟨fun _ => by omega, fun _ => by omega⟩⟩⟩
        · intro hc28
          change ¬ (sg ≤ (0 : Int)) at hc28
          exfalso; omega
    · intro hc29
      change ¬ (sg ≤ (0 : Int)) at hc29
      refine pw_bip E (pc' := 26) rfl rfl (by decide) ?_
      refine pw_ld E (pc' := 27) (st' := [.ref 141, pw_i 10, pw_i 0]) rfl (fun _ => rfl) ?_
      refine pw_getR (b := 150) I E (c := 125) (k := 13) (pc' := 30) rfl rfl rfl rfl rfl rfl rfl ?_
      refine pw_ld E (pc' := 31) (st' := [pw_i k, .ref 150, pw_i 10, pw_i 0]) rfl (fun _ => rfl) ?_
      refine pw_ald2 I E (c := 134) (pc' := 32) rfl rfl rfl (by decide) rfl (by decide) (by omega) (by omega) rfl (fun hf30a hf30b => ?_)
      refine pw_mul E (pc' := 33) rfl rfl ?_
      refine pw_goto E (pc' := 37) rfl (by decide) ?_
      refine pw_add E (pc' := 38) rfl rfl ?_
      refine pw_ist E (pc' := 40) (ls' := [some (.ref 141), some (pw_i k), some (pw_i b), some (pw_i e), some (pw_i sg), some (pw_i (0 + (10 * (pw_g h 134 (k.toNat)))))]) rfl rfl rfl rfl ?_
      refine pw_goto E (pc' := 54) rfl (by decide) ?_
      refine pw_ld E (pc' := 55) (st' := [.ref 141]) rfl (fun _ => rfl) ?_
      refine pw_getR (b := 154) I E (c := 125) (k := 18) (pc' := 58) rfl rfl rfl rfl rfl rfl rfl ?_
      refine pw_bip E (pc' := 60) rfl rfl (by decide) ?_
      refine pw_ld E (pc' := 61) (st' := [pw_i k, pw_i 12, .ref 154]) rfl (fun _ => rfl) ?_
      refine pw_mul E (pc' := 62) rfl rfl ?_
      refine pw_ld E (pc' := 63) (st' := [pw_i b, pw_i (12 * k), .ref 154]) rfl (fun _ => rfl) ?_
      refine pw_add E (pc' := 64) rfl rfl ?_
      refine pw_ald2 I E (c := 138) (pc' := 65) rfl rfl rfl (by decide) rfl (by decide) (by omega) (by omega) rfl (fun hf31a hf31b => ?_)
      refine pw_if E (pc' := 94) rfl (by decide) (by omega) (by omega) ?_ ?_
      · intro hc32
        change pw_g h 138 (((12 * k) + b).toNat) ≠ (0 : Int) at hc32
        refine pw_ld E (pc' := 96) (st' := [pw_i (0 + (10 * (pw_g h 134 (k.toNat))))]) rfl (fun _ => rfl) ?_
        refine pw_ld E (pc' := 97) (st' := [.ref 141, pw_i (0 + (10 * (pw_g h 134 (k.toNat))))]) rfl (fun _ => rfl) ?_
        refine pw_ld E (pc' := 98) (st' := [pw_i k, .ref 141, pw_i (0 + (10 * (pw_g h 134 (k.toNat))))]) rfl (fun _ => rfl) ?_
        refine pw_ld E (pc' := 99) (st' := [pw_i b, pw_i k, .ref 141, pw_i (0 + (10 * (pw_g h 134 (k.toNat))))]) rfl (fun _ => rfl) ?_
        obtain ⟨f33l, f33h, -⟩ := pw_obj (c := 125) I rfl
        refine pw_call (m' := 210) (As := [.ref 141, pw_i k, pw_i b]) (rest := [pw_i (0 + (10 * (pw_g h 134 (k.toNat))))]) (ls'' := [some (.ref 141), some (pw_i k), some (pw_i b)]) (Nat.le_trans (by decide) hd) E rfl (fun _ => pw_iV rfl rfl rfl rfl (pw_cellI f33h rfl)) (rfl : pm_ent 210 = some (3, 3, 12, 0, pmc_210)) rfl rfl (cm_210_h (pw_dp hd (by decide)) I (k) (by omega) (by omega) (b) (by omega) (by omega)) ?_
        rintro u35 v34 ⟨rfl, x36, rfl, hx36a, hx36b, hx36r⟩
        refine ⟨_, rfl, ?_⟩
        show pw X d h 227 102 [some (.ref 141), some (pw_i k), some (pw_i b), some (pw_i e), some (pw_i sg), some (pw_i (0 + (10 * (pw_g h 134 (k.toNat)))))] [pw_i x36, pw_i (0 + (10 * (pw_g h 134 (k.toNat))))] _
        change x36 = 10 * pw_g h 139 (12 * k + b).toNat + pw_g h 125 15 * pw_g h 140 (12 * k + b).toNat at hx36r
        refine pw_sub E (pc' := 103) rfl rfl ?_
        refine pw_ist E (pc' := 105) (ls' := [some (.ref 141), some (pw_i k), some (pw_i b), some (pw_i e), some (pw_i sg), some (pw_i ((0 + (10 * (pw_g h 134 (k.toNat)))) - x36))]) rfl rfl rfl rfl ?_
        refine pw_ld E (pc' := 107) (st' := [pw_i ((0 + (10 * (pw_g h 134 (k.toNat)))) - x36)]) rfl (fun _ => rfl) ?_
        refine pw_iret E rfl ?_
        have me0 : pv_mh h k e 0 = 0 := pv_mhI.2.2 (by omega) (by decide)
        have me1 : pv_mh h k e 1 = 10 * pw_g h 134 k.toNat := pv_mhI.2.1 (by omega) rfl
        have hyb : x36 = pv_hmk h b k := hx36r
        have mb0 : pv_mh h k b 0 = pv_hmk h b k := pv_mhI.1 (by omega)
        have mb1 : pv_mh h k b 1 = pv_hmk h b k := pv_mhI.1 (by omega)
        exact ⟨rfl, ⟨_, rfl, by omega, by omega, ⟨fun _ => by omega, fun _ => by omega⟩⟩⟩
      · intro hc37
        change ¬ (pw_g h 138 (((12 * k) + b).toNat) ≠ (0 : Int)) at hc37
        refine pw_ld E (pc' := 70) (st' := [pw_i (0 + (10 * (pw_g h 134 (k.toNat))))]) rfl (fun _ => rfl) ?_
        refine pw_ld E (pc' := 72) (st' := [pw_i sg, pw_i (0 + (10 * (pw_g h 134 (k.toNat))))]) rfl (fun _ => rfl) ?_
        refine pw_if E (pc' := 79) rfl (by decide) (by omega) (by omega) ?_ ?_
        · intro hc38
          change sg ≤ (0 : Int) at hc38
          exfalso; omega
        · intro hc39
          change ¬ (sg ≤ (0 : Int)) at hc39
          refine pw_ld E (pc' := 76) (st' := [pw_i 0, pw_i (0 + (10 * (pw_g h 134 (k.toNat))))]) rfl (fun _ => rfl) ?_
          refine pw_goto E (pc' := 88) rfl (by decide) ?_
          refine pw_sub E (pc' := 89) rfl rfl ?_
          refine pw_ist E (pc' := 91) (ls' := [some (.ref 141), some (pw_i k), some (pw_i b), some (pw_i e), some (pw_i sg), some (pw_i ((0 + (10 * (pw_g h 134 (k.toNat)))) - 0))]) rfl rfl rfl rfl ?_
          refine pw_goto E (pc' := 105) rfl (by decide) ?_
          refine pw_ld E (pc' := 107) (st' := [pw_i ((0 + (10 * (pw_g h 134 (k.toNat)))) - 0)]) rfl (fun _ => rfl) ?_
          refine pw_iret E rfl ?_
          have me0 : pv_mh h k e 0 = 0 := pv_mhI.2.2 (by omega) (by decide)
          have me1 : pv_mh h k e 1 = 10 * pw_g h 134 k.toNat := pv_mhI.2.1 (by omega) rfl
          have mb0 : pv_mh h k b 0 = 0 := pv_mhI.2.2 (by omega) (by decide)
          have mb1 : pv_mh h k b 1 = 10 * pw_g h 134 k.toNat := pv_mhI.2.1 (by omega) rfl
          exact ⟨rfl, ⟨_, rfl, by omega, by omega, ⟨fun _ => by omega, fun _ => by omega⟩⟩⟩
set_option maxHeartbeats 4000000 in
theorem cm_226_s {X : List (Nat × List Value)} {d : Nat} {h : pm_H} (hd : 4 ≤ d) (I : pw_I h) (b : Int) (hb1 : 0 ≤ b) (hb2 : b ≤ 11) (e : Int) (he1 : 0 ≤ e) (he2 : e ≤ 11) (sg : Int) (hsg1 : (-1) ≤ sg) (hsg2 : sg ≤ 1) (hp0 : sg ≠ 0) : pw X d h 226 0 [some (.ref 141), some (pw_i b), some (pw_i e), some (pw_i sg), none] [] (fun h' v => pw_I h' ∧ pw_E [125] h h' ∧ ∃ a : Int, v = .inl (some (pw_i a)) ∧ 0 ≤ a ∧ a ≤ 1 ∧ (((a = 1 ∧ pv_OK (pv_sdbm h)) ∨ (a = 0 ∧ ¬ pv_OK (pv_sdbm h))) ∧ pw_gm h' 125 24 = pv_U (pv_sdbm h) (pv_chbm h sg b e) ∧ pw_gm h' 125 25 = pv_D (pv_sdbm h) ∧ pw_gm h' 125 26 = pv_S (pv_sdbm h) (pv_chbm h sg b e) 0 24 ∧ pw_gm h' 125 27 = pv_N (pv_sdbm h) 0 24 ∧ pw_gm h' 125 28 = pv_S (pv_sdbm h) (pv_chbm h sg b e) 1 24 ∧ pw_gm h' 125 29 = pv_N (pv_sdbm h) 1 24)) := by
  have E : pm_ent 226 = some (4, 5, 12, 1, pmc_226) := rfl
  have E0 : pw_E [125] h h := pw_E.rf _ _
  refine pw_ld E (pc' := 1) (st' := [.ref 141]) rfl (fun _ => rfl) ?_
  obtain ⟨f1l, f1h, -⟩ := pw_obj (c := 125) I rfl
  refine pw_call (m' := 219) (As := [.ref 141]) (rest := []) (ls'' := [some (.ref 141)]) (Nat.le_trans (by decide) hd) E rfl (fun _ => pw_iV rfl rfl rfl rfl (pw_cellI f1h rfl)) (rfl : pm_ent 219 = some (1, 1, 12, 4, pmc_219)) rfl rfl (cm_219_s (pw_dp hd (by decide)) I ) ?_
  rintro h2 v3 ⟨h2I, h2E, hqbeg, rfl⟩
  refine ⟨_, rfl, ?_⟩
  have h2F := E0.tr (h2E.wk (W' := [125]) (by first | rfl | simp))
  show pw X d h2 226 4 [some (.ref 141), some (pw_i b), some (pw_i e), some (pw_i sg), none] [] _
  refine pw_ld E (pc' := 5) (st' := [pw_i 0]) rfl (fun _ => rfl) ?_
  refine pw_ist E (pc' := 7) (ls' := [some (.ref 141), some (pw_i b), some (pw_i e), some (pw_i sg), some (pw_i 0)]) rfl rfl rfl rfl ?_
  have L7 : ∀ (n7 : Nat) (k7_4 : Int) (gh7 : pm_H), pw_I gh7 → pw_E [125] h gh7 → 0 ≤ k7_4 → k7_4 ≤ 24 → pw_gm gh7 125 26 = pv_S (pv_sdbm h) (pv_chbm h sg b e) 0 (k7_4).toNat → pw_gm gh7 125 27 = pv_N (pv_sdbm h) 0 (k7_4).toNat → pw_gm gh7 125 28 = pv_S (pv_sdbm h) (pv_chbm h sg b e) 1 (k7_4).toNat → pw_gm gh7 125 29 = pv_N (pv_sdbm h) 1 (k7_4).toNat → pw_gm gh7 125 27 + pw_gm gh7 125 29 ≤ k7_4 → 0 ≤ pw_gm gh7 125 27 → 0 ≤ pw_gm gh7 125 29 → (-2000) * k7_4 ≤ pw_gm gh7 125 26 → pw_gm gh7 125 26 ≤ 2000 * k7_4 → (-2000) * k7_4 ≤ pw_gm gh7 125 28 → pw_gm gh7 125 28 ≤ 2000 * k7_4 → (24 - k7_4).toNat = n7 → pw X d gh7 226 7 [some (.ref 141), some (pw_i b), some (pw_i e), some (pw_i sg), some (pw_i k7_4)] [] (fun h' v => pw_I h' ∧ pw_E [125] h h' ∧ ∃ a : Int, v = .inl (some (pw_i a)) ∧ 0 ≤ a ∧ a ≤ 1 ∧ (((a = 1 ∧ pv_OK (pv_sdbm h)) ∨ (a = 0 ∧ ¬ pv_OK (pv_sdbm h))) ∧ pw_gm h' 125 24 = pv_U (pv_sdbm h) (pv_chbm h sg b e) ∧ pw_gm h' 125 25 = pv_D (pv_sdbm h) ∧ pw_gm h' 125 26 = pv_S (pv_sdbm h) (pv_chbm h sg b e) 0 24 ∧ pw_gm h' 125 27 = pv_N (pv_sdbm h) 0 24 ∧ pw_gm h' 125 28 = pv_S (pv_sdbm h) (pv_chbm h sg b e) 1 24 ∧ pw_gm h' 125 29 = pv_N (pv_sdbm h) 1 24)) := by
    intro n7
    induction n7 using Nat.strongRecOn with
    | ind n7 ih7 =>
      intro k7_4 gh7 I7 E7 k7_4a k7_4b hx7_0 hx7_1 hx7_2 hx7_3 hx7_4 hx7_5 hx7_6 hx7_7 hx7_8 hx7_9 hx7_10 hm7
      refine pw_ld E (pc' := 9) (st' := [pw_i k7_4]) rfl (fun _ => rfl) ?_
      refine pw_bip E (pc' := 11) rfl rfl (by decide) ?_
      refine pw_if2 E (pc' := 74) rfl (by decide) (by omega) (by omega) (by decide) (by decide) ?_ ?_
      · intro hc4
        change (24 : Int) ≤ k7_4 at hc4
        rw [show (k7_4).toNat = 24 by omega] at hx7_0 hx7_1 hx7_2 hx7_3
        refine pw_ld E (pc' := 75) (st' := [.ref 141]) rfl (fun _ => rfl) ?_
        obtain ⟨f5l, f5h, -⟩ := pw_obj (c := 125) I7 rfl
        refine pw_call (m' := 221) (As := [.ref 141]) (rest := []) (ls'' := [some (.ref 141)]) (Nat.le_trans (by decide) hd) E rfl (fun _ => pw_iV rfl rfl rfl rfl (pw_cellI f5h rfl)) (rfl : pm_ent 221 = some (1, 1, 12, 1, pmc_221)) rfl rfl (cm_221_s (pw_dp hd (by decide)) I7 (by omega) (by omega) (by omega) (by omega) (by omega) (by omega) (by omega) (by omega)) ?_
        rintro h6 v7 ⟨h6I, h6E, x8, rfl, hx8a, hx8b, hx8r⟩
        refine ⟨_, rfl, ?_⟩
        have h6F := E7.tr (h6E.wk (W' := [125]) (by first | rfl | simp))
        show pw X d h6 226 78 [some (.ref 141), some (pw_i b), some (pw_i e), some (pw_i sg), some (pw_i k7_4)] [pw_i x8] _
        change ((x8 = 1 ∧ 0 < pw_gm gh7 125 27 * pw_gm gh7 125 29) ∨ (x8 = 0 ∧ pw_gm gh7 125 27 * pw_gm gh7 125 29 ≤ 0)) ∧ pw_gm h6 125 24 = pw_gm gh7 125 26 * pw_gm gh7 125 29 - pw_gm gh7 125 28 * pw_gm gh7 125 27 ∧ pw_gm h6 125 25 = pw_gm gh7 125 27 * pw_gm gh7 125 29 ∧ pw_gm h6 125 26 = pw_gm gh7 125 26 ∧ pw_gm h6 125 27 = pw_gm gh7 125 27 ∧ pw_gm h6 125 28 = pw_gm gh7 125 28 ∧ pw_gm h6 125 29 = pw_gm gh7 125 29 at hx8r
        refine pw_zret E rfl (by omega) ?_
        rw [hx7_0, hx7_1, hx7_2, hx7_3] at hx8r
        obtain ⟨r1, r2, r3, r4, r5, r6, r7⟩ := hx8r
        exact ⟨h6I, h6F, ⟨_, rfl, by omega, by omega, pv_okD (pv_NB 24).1 (pv_NB 24).1 r1, r2, r3, r4, r5, r6, r7⟩⟩
      · intro hc9
        change ¬ ((24 : Int) ≤ k7_4) at hc9
        have od := pv_sdbm_I (h := h) (k := k7_4) (by omega)
        have oc := pv_chbm_I (h := h) (sg := sg) (b := b) (e := e) (k := k7_4) (by omega)
        have q1 : pw_g gh7 131 (k7_4).toNat = pw_g h 131 (k7_4).toNat := pw_Eg (c := 131) I E7 rfl rfl _
        have q4 : pw_g gh7 132 (k7_4).toNat = pw_g h 132 (k7_4).toNat := pw_Eg (c := 132) I E7 rfl rfl _
        have hw4 := pw_gA (c := 132) (j := k7_4) I7 rfl (by decide) (by omega) (by omega)
        have rb0 : pv_mh gh7 k7_4 b 0 = pv_mh h k7_4 b 0 := pv_mhE I E7 rfl
        have rb1 : pv_mh gh7 k7_4 b 1 = pv_mh h k7_4 b 1 := pv_mhE I E7 rfl
        have re0 : pv_mh gh7 k7_4 e 0 = pv_mh h k7_4 e 0 := pv_mhE I E7 rfl
        have re1 : pv_mh gh7 k7_4 e 1 = pv_mh h k7_4 e 1 := pv_mhE I E7 rfl
        refine pw_ld E (pc' := 15) (st' := [.ref 141]) rfl (fun _ => rfl) ?_
        refine pw_getR (b := 147) I7 E (c := 125) (k := 10) (pc' := 18) rfl rfl rfl rfl rfl rfl rfl ?_
        refine pw_ld E (pc' := 20) (st' := [pw_i k7_4, .ref 147]) rfl (fun _ => rfl) ?_
        refine pw_ald2 I7 E (c := 131) (pc' := 21) rfl rfl rfl (by decide) rfl (by decide) (by omega) (by omega) rfl (fun hf10a hf10b => ?_)
        refine pw_if E (pc' := 68) rfl (by decide) (by omega) (by omega) ?_ ?_
        · intro hc11
          change pw_g gh7 131 (k7_4.toNat) = (0 : Int) at hc11
          have hsd : (pv_sdbm h) (k7_4).toNat = -1 := by omega
          clear oc od
          obtain ⟨e0, e1, e2, e3⟩ := pv_stpm (sd := pv_sdbm h) (ch := pv_chbm h sg b e) (k := k7_4) (by omega) hsd
          refine pw_inc E (pc' := 71) (ls' := [some (.ref 141), some (pw_i b), some (pw_i e), some (pw_i sg), some (pw_i (k7_4 + 1))]) rfl rfl rfl rfl ?_
          refine pw_goto E (pc' := 7) rfl (by decide) ?_
          exact ih7 _ (by omega) (k7_4 + 1) gh7 I7 E7 (by omega) (by omega) (by omega) (by omega) (by omega) (by omega) (by omega) (by omega) (by omega) (by omega) (by omega) (by omega) (by omega) rfl
        · intro hc12
          change ¬ (pw_g gh7 131 (k7_4.toNat) = (0 : Int)) at hc12
          refine pw_ld E (pc' := 25) (st' := [.ref 141]) rfl (fun _ => rfl) ?_
          refine pw_ld E (pc' := 26) (st' := [.ref 141, .ref 141]) rfl (fun _ => rfl) ?_
          refine pw_getR (b := 148) I7 E (c := 125) (k := 11) (pc' := 29) rfl rfl rfl rfl rfl rfl rfl ?_
          refine pw_ld E (pc' := 31) (st' := [pw_i k7_4, .ref 148, .ref 141]) rfl (fun _ => rfl) ?_
          refine pw_ald2 I7 E (c := 132) (pc' := 32) rfl rfl rfl (by decide) rfl (by decide) (by omega) (by omega) rfl (fun hf13a hf13b => ?_)
          refine pw_if E (pc' := 39) rfl (by decide) (by omega) (by omega) ?_ ?_
          · intro hc14
            change pw_g gh7 132 (k7_4.toNat) ≠ (0 : Int) at hc14
            refine pw_ld E (pc' := 40) (st' := [pw_i 0, .ref 141]) rfl (fun _ => rfl) ?_
            refine pw_ld E (pc' := 41) (st' := [.ref 141, pw_i 0, .ref 141]) rfl (fun _ => rfl) ?_
            refine pw_ld E (pc' := 43) (st' := [pw_i k7_4, .ref 141, pw_i 0, .ref 141]) rfl (fun _ => rfl) ?_
            refine pw_ld E (pc' := 44) (st' := [pw_i b, pw_i k7_4, .ref 141, pw_i 0, .ref 141]) rfl (fun _ => rfl) ?_
            refine pw_ld E (pc' := 45) (st' := [pw_i e, pw_i b, pw_i k7_4, .ref 141, pw_i 0, .ref 141]) rfl (fun _ => rfl) ?_
            refine pw_ld E (pc' := 46) (st' := [.ref 141, pw_i e, pw_i b, pw_i k7_4, .ref 141, pw_i 0, .ref 141]) rfl (fun _ => rfl) ?_
            refine pw_getR (b := 148) I7 E (c := 125) (k := 11) (pc' := 49) rfl rfl rfl rfl rfl rfl rfl ?_
            refine pw_ld E (pc' := 51) (st' := [pw_i k7_4, .ref 148, pw_i e, pw_i b, pw_i k7_4, .ref 141, pw_i 0, .ref 141]) rfl (fun _ => rfl) ?_
            refine pw_ald2 I7 E (c := 132) (pc' := 52) rfl rfl rfl (by decide) rfl (by decide) (by omega) (by omega) rfl (fun hf15a hf15b => ?_)
            refine pw_if E (pc' := 59) rfl (by decide) (by omega) (by omega) ?_ ?_
            · intro hc16
              change pw_g gh7 132 (k7_4.toNat) ≠ (0 : Int) at hc16
              refine pw_ld E (pc' := 60) (st' := [pw_i sg, pw_i e, pw_i b, pw_i k7_4, .ref 141, pw_i 0, .ref 141]) rfl (fun _ => rfl) ?_
              refine pw_ineg E (pc' := 61) rfl rfl ?_
              obtain ⟨f17l, f17h, -⟩ := pw_obj (c := 125) I7 rfl
              refine pw_call (m' := 227) (As := [.ref 141, pw_i k7_4, pw_i b, pw_i e, pw_i (-sg)]) (rest := [pw_i 0, .ref 141]) (ls'' := [some (.ref 141), some (pw_i k7_4), some (pw_i b), some (pw_i e), some (pw_i (-sg)), none]) (Nat.le_trans (by decide) hd) E rfl (fun _ => pw_iV rfl rfl rfl rfl (pw_cellI f17h rfl)) (rfl : pm_ent 227 = some (5, 6, 12, 0, pmc_227)) rfl rfl (cm_227_s (pw_dp hd (by decide)) I7 (k7_4) (by omega) (by omega) (b) (by omega) (by omega) (e) (by omega) (by omega) (-sg) (by omega) (by omega)) ?_
              rintro u19 v18 ⟨rfl, x20, rfl, hx20a, hx20b, hx20r⟩
              refine ⟨_, rfl, ?_⟩
              show pw X d gh7 226 64 [some (.ref 141), some (pw_i b), some (pw_i e), some (pw_i sg), some (pw_i k7_4)] [pw_i x20, pw_i 0, .ref 141] _
              change (0 < (-sg) → x20 = pv_mh gh7 k7_4 e 1 - pv_mh gh7 k7_4 b 0) ∧ (¬ (0 < (-sg)) → x20 = pv_mh gh7 k7_4 e 0 - pv_mh gh7 k7_4 b 1) at hx20r
              refine pw_i2l E (pc' := 65) rfl rfl (by omega) (by omega) ?_
              have hch : pv_chbm h sg b e (k7_4).toNat = x20 := by omega
              have hsd : (pv_sdbm h) (k7_4).toNat = 1 := by omega
              clear oc od
              obtain ⟨e0, e1, e2, e3⟩ := pv_stp1 (sd := pv_sdbm h) (ch := pv_chbm h sg b e) (k := k7_4) (by omega) hsd
              rw [hch] at e3
              obtain ⟨f21l, f21h, -⟩ := pw_obj (c := 125) I7 rfl
              refine pw_call (m' := 220) (As := [.ref 141, pw_i 0, .long (Int64.ofInt x20)]) (rest := []) (ls'' := [some (.ref 141), some (pw_i 0), some (.long (Int64.ofInt x20)), none]) (Nat.le_trans (by decide) hd) E rfl (fun _ => pw_iV rfl rfl rfl rfl (pw_cellI f21h rfl)) (rfl : pm_ent 220 = some (3, 4, 12, 4, pmc_220)) rfl rfl (cm_220_s (pw_dp hd (by decide)) I7 (0) (by omega) (by omega) (x20) (by omega) (by omega) (by omega) (by omega) (by omega) (by omega) (by omega) (by omega) (by omega)) ?_
              rintro h22 v23 ⟨h22I, h22E, hqadd, rfl⟩
              refine ⟨_, rfl, ?_⟩
              have h22F := E7.tr (h22E.wk (W' := [125]) (by first | rfl | simp))
              show pw X d h22 226 68 [some (.ref 141), some (pw_i b), some (pw_i e), some (pw_i sg), some (pw_i k7_4)] [] _
              have hqa := hqadd.2 rfl
              clear hqadd
              refine pw_inc E (pc' := 71) (ls' := [some (.ref 141), some (pw_i b), some (pw_i e), some (pw_i sg), some (pw_i (k7_4 + 1))]) rfl rfl rfl rfl ?_
              refine pw_goto E (pc' := 7) rfl (by decide) ?_
              exact ih7 _ (by omega) (k7_4 + 1) h22 h22I h22F (by omega) (by omega) (by omega) (by omega) (by omega) (by omega) (by omega) (by omega) (by omega) (by omega) (by omega) (by omega) (by omega) rfl
            · intro hc24
              change ¬ (pw_g gh7 132 (k7_4.toNat) ≠ (0 : Int)) at hc24
              exfalso; omega
          · intro hc25
            change ¬ (pw_g gh7 132 (k7_4.toNat) ≠ (0 : Int)) at hc25
            refine pw_ld E (pc' := 36) (st' := [pw_i 1, .ref 141]) rfl (fun _ => rfl) ?_
            refine pw_goto E (pc' := 40) rfl (by decide) ?_
            refine pw_ld E (pc' := 41) (st' := [.ref 141, pw_i 1, .ref 141]) rfl (fun _ => rfl) ?_
            refine pw_ld E (pc' := 43) (st' := [pw_i k7_4, .ref 141, pw_i 1, .ref 141]) rfl (fun _ => rfl) ?_
            refine pw_ld E (pc' := 44) (st' := [pw_i b, pw_i k7_4, .ref 141, pw_i 1, .ref 141]) rfl (fun _ => rfl) ?_
            refine pw_ld E (pc' := 45) (st' := [pw_i e, pw_i b, pw_i k7_4, .ref 141, pw_i 1, .ref 141]) rfl (fun _ => rfl) ?_
            refine pw_ld E (pc' := 46) (st' := [.ref 141, pw_i e, pw_i b, pw_i k7_4, .ref 141, pw_i 1, .ref 141]) rfl (fun _ => rfl) ?_
            refine pw_getR (b := 148) I7 E (c := 125) (k := 11) (pc' := 49) rfl rfl rfl rfl rfl rfl rfl ?_
            refine pw_ld E (pc' := 51) (st' := [pw_i k7_4, .ref 148, pw_i e, pw_i b, pw_i k7_4, .ref 141, pw_i 1, .ref 141]) rfl (fun _ => rfl) ?_
            refine pw_ald2 I7 E (c := 132) (pc' := 52) rfl rfl rfl (by decide) rfl (by decide) (by omega) (by omega) rfl (fun hf26a hf26b => ?_)
            refine pw_if E (pc' := 59) rfl (by decide) (by omega) (by omega) ?_ ?_
            · intro hc27
              change pw_g gh7 132 (k7_4.toNat) ≠ (0 : Int) at hc27
              exfalso; omega
            · intro hc28
              change ¬ (pw_g gh7 132 (k7_4.toNat) ≠ (0 : Int)) at hc28
              refine pw_ld E (pc' := 56) (st' := [pw_i sg, pw_i e, pw_i b, pw_i k7_4, .ref 141, pw_i 1, .ref 141]) rfl (fun _ => rfl) ?_
              refine pw_goto E (pc' := 61) rfl (by decide) ?_
              obtain ⟨f29l, f29h, -⟩ := pw_obj (c := 125) I7 rfl
              refine pw_call (m' := 227) (As := [.ref 141, pw_i k7_4, pw_i b, pw_i e, pw_i sg]) (rest := [pw_i 1, .ref 141]) (ls'' := [some (.ref 141), some (pw_i k7_4), some (pw_i b), some (pw_i e), some (pw_i sg), none]) (Nat.le_trans (by decide) hd) E rfl (fun _ => pw_iV rfl rfl rfl rfl (pw_cellI f29h rfl)) (rfl : pm_ent 227 = some (5, 6, 12, 0, pmc_227)) rfl rfl (cm_227_s (pw_dp hd (by decide)) I7 (k7_4) (by omega) (by omega) (b) (by omega) (by omega) (e) (by omega) (by omega) (sg) (by omega) (by omega)) ?_
              rintro u31 v30 ⟨rfl, x32, rfl, hx32a, hx32b, hx32r⟩
              refine ⟨_, rfl, ?_⟩
              show pw X d gh7 226 64 [some (.ref 141), some (pw_i b), some (pw_i e), some (pw_i sg), some (pw_i k7_4)] [pw_i x32, pw_i 1, .ref 141] _
              change (0 < sg → x32 = pv_mh gh7 k7_4 e 1 - pv_mh gh7 k7_4 b 0) ∧ (¬ (0 < sg) → x32 = pv_mh gh7 k7_4 e 0 - pv_mh gh7 k7_4 b 1) at hx32r
              refine pw_i2l E (pc' := 65) rfl rfl (by omega) (by omega) ?_
              have hch : pv_chbm h sg b e (k7_4).toNat = x32 := by omega
              have hsd : (pv_sdbm h) (k7_4).toNat = 0 := by omega
              clear oc od
              obtain ⟨e0, e1, e2, e3⟩ := pv_stp0 (sd := pv_sdbm h) (ch := pv_chbm h sg b e) (k := k7_4) (by omega) hsd
              rw [hch] at e2
              obtain ⟨f33l, f33h, -⟩ := pw_obj (c := 125) I7 rfl
              refine pw_call (m' := 220) (As := [.ref 141, pw_i 1, .long (Int64.ofInt x32)]) (rest := []) (ls'' := [some (.ref 141), some (pw_i 1), some (.long (Int64.ofInt x32)), none]) (Nat.le_trans (by decide) hd) E rfl (fun _ => pw_iV rfl rfl rfl rfl (pw_cellI f33h rfl)) (rfl : pm_ent 220 = some (3, 4, 12, 4, pmc_220)) rfl rfl (cm_220_s (pw_dp hd (by decide)) I7 (1) (by omega) (by omega) (x32) (by omega) (by omega) (by omega) (by omega) (by omega) (by omega) (by omega) (by omega) (by omega)) ?_
              rintro h34 v35 ⟨h34I, h34E, hqadd, rfl⟩
              refine ⟨_, rfl, ?_⟩
              have h34F := E7.tr (h34E.wk (W' := [125]) (by first | rfl | simp))
              show pw X d h34 226 68 [some (.ref 141), some (pw_i b), some (pw_i e), some (pw_i sg), some (pw_i k7_4)] [] _
              have hqa := hqadd.1 rfl
              clear hqadd
              refine pw_inc E (pc' := 71) (ls' := [some (.ref 141), some (pw_i b), some (pw_i e), some (pw_i sg), some (pw_i (k7_4 + 1))]) rfl rfl rfl rfl ?_
              refine pw_goto E (pc' := 7) rfl (by decide) ?_
              exact ih7 _ (by omega) (k7_4 + 1) h34 h34I h34F (by omega) (by omega) (by omega) (by omega) (by omega) (by omega) (by omega) (by omega) (by omega) (by omega) (by omega) (by omega) (by omega) rfl
  exact L7 _ (0) h2 h2I h2F (by omega) (by omega) (by show _ = (0 : Int); omega) (by show _ = (0 : Int); omega) (by show _ = (0 : Int); omega) (by show _ = (0 : Int); omega) (by omega) (by omega) (by omega) (by omega) (by omega) (by omega) (by omega) rfl
end
