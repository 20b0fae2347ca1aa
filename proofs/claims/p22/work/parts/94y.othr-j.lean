section
/-! other rivers exactly (printed by wip/tool/mothr.py) -/
theorem pw_divB {a b : Int} (h1 : 0 ≤ a) (h2 : 0 < b) : 0 ≤ a / b ∧ a / b ≤ a := ⟨Int.ediv_nonneg h1 (by omega), Int.ediv_le_self _ h1⟩
section Py
variable {X : List (Nat × List Value)} {d : Nat} {h : pm_H} {m pc pc' len na nl own rt : Nat} {C : pm_T (Instr × Nat)} {ls : pm_L} {r : List Value} {Q : pm_H → (Option Value ⊕ Unit) → Prop}
theorem pw_getLM {ix c ci k t a : Nat} {sps : List pw_F} {lo hi : Int} (I : pw_I h) (he : pm_ent m = some (na, nl, own, rt, C)) (hq : pm_get C pc = some (.getfield ix, len)) (hl : pm_get (pm_lnk own) ix = some (0, ci, k, t)) (hs : pw_T[c]? = some (.inr (ci, sps))) (hk : sps[k]? = some (1, lo, hi)) (ha : 16 + c = a) (hc : pc + len = pc') (H : pw X d h m pc' ls (.long (Int64.ofInt (pw_gm h c k)) :: r) Q) : pw X d h m pc ls (.ref a :: r) Q := by
  refine pw_getL I he hq hl hs hk ha hc ?_
  unfold pw_gm at H
  rw [Int64.ofInt_toInt] at H
  exact H
theorem pw_ldivE {a b : Int} (h1 : 0 ≤ a) (h2 : a ≤ 4611686018427387904) (h3 : 0 < b) (h4 : b ≤ 4611686018427387904) : Int64.ofInt a / Int64.ofInt b = Int64.ofInt (a / b) := by
  apply Int64.toInt_inj.mp
  rw [Int64.toInt_div_of_ne_left _ _ (fun e => by
    have := congrArg Int64.toInt e
    rw [pw_lToInt (by omega) (by omega)] at this
    have m : Int64.minValue.toInt = -9223372036854775808 := by decide
    omega), pw_lToInt (by omega) (by omega), pw_lToInt (by omega) (by omega)]
  have hb := pw_divB h1 h3
  rw [pw_lToInt (by omega) (by omega), Int.tdiv_eq_ediv_of_nonneg h1]
theorem pw_ldivC {a b : Int} (he : pm_ent m = some (na, nl, own, rt, C)) (hq : pm_get C pc = some (.ldiv, len)) (hc : pc + len = pc') (h1 : 0 ≤ a) (h2 : a ≤ 4611686018427387904) (h3 : 0 < b) (h4 : b ≤ 4611686018427387904) (H : pw X d h m pc' ls (.long (Int64.ofInt (a / b)) :: r) Q) : pw X d h m pc ls (.long (Int64.ofInt b) :: .long (Int64.ofInt a) :: r) Q := by
  rw [← pw_ldivE h1 h2 h3 h4] at H
  exact pw_ldivA he hq rfl hc (pw_l0 (by omega) (by omega) (by omega)) H
end Py

set_option maxHeartbeats 4000000 in
theorem cm_37_o {X : List (Nat × List Value)} {d : Nat} {h : pm_H} (hd : 2 ≤ d) (I : pw_I h) (su : Int) (hsu1 : (-9999) ≤ su) (hsu2 : su ≤ 9999) (n : Int) (hn1 : 1 ≤ n) (hn2 : n ≤ 999) (z : Int) (hz1 : 0 ≤ z) (hz2 : z ≤ 1) : pw X d h 37 0 [some (.ref 116), some (pw_i su), some (pw_i n), some (pw_i z)] [] (fun h' v => pw_I h' ∧ pw_E [100, 101, 102, 103] h h' ∧ ∃ a : Int, v = .inl (some (pw_i a)) ∧ (-1) ≤ a ∧ a ≤ 19 ∧ ((pw_g h 100 3 < 20 ∧ a = pw_g h 100 3 ∧ pw_g h' 100 3 = pw_g h 100 3 + 1 ∧ pw_up h h' 101 (pw_g h 100 3) (su) ∧ pw_up h h' 102 (pw_g h 100 3) (n) ∧ pw_up h h' 103 (pw_g h 100 3) (z)) ∨ (20 ≤ pw_g h 100 3 ∧ a = -1 ∧ pw_g h' 100 3 = pw_g h 100 3 ∧ pw_sm h h' 101 ∧ pw_sm h h' 102 ∧ pw_sm h h' 103))) := by
  have E : pm_ent 37 = some (4, 4, 4, 0, pmc_37) := rfl
  have E0 : pw_E [100, 101, 102, 103] h h := pw_E.rf _ _
  refine pw_ld E (pc' := 1) (st' := [.ref 116]) rfl (fun _ => rfl) ?_
  obtain ⟨f1l, f1h, -⟩ := pw_obj (c := 100) I rfl
  refine pw_call (m' := 36) (As := [.ref 116]) (rest := []) (ls'' := [some (.ref 116)]) (Nat.le_trans (by decide) hd) E rfl (fun _ => pw_iV rfl rfl rfl rfl (pw_cellI f1h rfl)) (rfl : pm_ent 36 = some (1, 1, 4, 1, pmc_36)) rfl rfl (cm_36 (pw_dp hd (by decide)) I ) ?_
  rintro u3 v2 ⟨rfl, x4, rfl, hx4a, hx4b, hx4r⟩
  refine ⟨_, rfl, ?_⟩
  show pw X d h 37 4 [some (.ref 116), some (pw_i su), some (pw_i n), some (pw_i z)] [pw_i x4] _
  change (x4 = 1 ∧ 20 ≤ pw_g h 100 3) ∨ (x4 = 0 ∧ pw_g h 100 3 < 20) at hx4r
  rcases (by omega : x4 = 1 ∨ x4 = 0) with hb5 | hb5
  · skip
    refine pw_if E (pc' := 9) rfl (by decide) (by omega) (by omega) ?_ ?_
    · intro hc6
      change x4 = (0 : Int) at hc6
      exfalso; omega
    · intro hc7
      change ¬ (x4 = (0 : Int)) at hc7
      refine pw_ld E (pc' := 8) (st' := [pw_i ((-1))]) rfl (fun _ => rfl) ?_
      refine pw_iret E rfl ?_
      exact ⟨I, E0, ⟨_, rfl, by omega, by omega, Or.inr ⟨by omega, rfl, rfl, fun _ => rfl, fun _ => rfl, fun _ => rfl⟩⟩⟩
  · skip
    refine pw_if E (pc' := 9) rfl (by decide) (by omega) (by omega) ?_ ?_
    · intro hc9
      change x4 = (0 : Int) at hc9
      refine pw_ld E (pc' := 10) (st' := [.ref 116]) rfl (fun _ => rfl) ?_
      refine pw_getR (b := 117) I E (c := 100) (k := 0) (pc' := 13) rfl rfl rfl rfl rfl rfl rfl ?_
      refine pw_ld E (pc' := 14) (st' := [.ref 116, .ref 117]) rfl (fun _ => rfl) ?_
      refine pw_getI2 I E (c := 100) (k := 3) (pc' := 17) rfl rfl rfl rfl rfl rfl (fun hf10a hf10b => ?_)
      refine pw_ld E (pc' := 18) (st' := [pw_i su, pw_i (pw_g h 100 3), .ref 117]) rfl (fun _ => rfl) ?_
      refine pw_ast0 I E (c := 101) (pc' := 19) rfl rfl rfl (by decide) rfl (by decide) (by omega) (by omega) rfl (by omega) (by omega) (by omega) (by omega) rfl ?_
      intro h11I h11E
      generalize h11w : pw_w h 101 ((pw_g h 100 3).toNat) (pw_i su) = h11 at h11I h11E ⊢
      have h11F := E0.tr (h11E.wk (W' := [100, 101, 102, 103]) (by first | rfl | simp))
      refine pw_ld E (pc' := 20) (st' := [.ref 116]) rfl (fun _ => rfl) ?_
      refine pw_getR (b := 118) h11I E (c := 100) (k := 1) (pc' := 23) rfl rfl rfl rfl rfl rfl rfl ?_
      refine pw_ld E (pc' := 24) (st' := [.ref 116, .ref 118]) rfl (fun _ => rfl) ?_
      have he13 : pw_g h11 100 3 = pw_g h 100 3 := by rw [← h11w]; exact pw_g_ne (by omega)
      refine pw_getI2 h11I E (c := 100) (k := 3) (pc' := 27) rfl rfl rfl rfl rfl rfl (fun hf12a hf12b => ?_)
      refine pw_ld E (pc' := 28) (st' := [pw_i n, pw_i (pw_g h11 100 3), .ref 118]) rfl (fun _ => rfl) ?_
      refine pw_ast0 h11I E (c := 102) (pc' := 29) rfl rfl rfl (by decide) rfl (by decide) (by omega) (by omega) rfl (by omega) (by omega) (by omega) (by omega) rfl ?_
      intro h14I h14E
      generalize h14w : pw_w h11 102 ((pw_g h11 100 3).toNat) (pw_i n) = h14 at h14I h14E ⊢
      have h14F := h11F.tr (h14E.wk (W' := [100, 101, 102, 103]) (by first | rfl | simp))
      refine pw_ld E (pc' := 30) (st' := [.ref 116]) rfl (fun _ => rfl) ?_
      refine pw_getR (b := 119) h14I E (c := 100) (k := 2) (pc' := 33) rfl rfl rfl rfl rfl rfl rfl ?_
      refine pw_ld E (pc' := 34) (st' := [.ref 116, .ref 119]) rfl (fun _ => rfl) ?_
      have he16 : pw_g h14 100 3 = pw_g h11 100 3 := by rw [← h14w]; exact pw_g_ne (by omega)
      refine pw_getI2 h14I E (c := 100) (k := 3) (pc' := 37) rfl rfl rfl rfl rfl rfl (fun hf15a hf15b => ?_)
      refine pw_ld E (pc' := 38) (st' := [pw_i z, pw_i (pw_g h14 100 3), .ref 119]) rfl (fun _ => rfl) ?_
      refine pw_ast0 h14I E (c := 103) (pc' := 39) rfl rfl rfl (by decide) rfl (by decide) (by omega) (by omega) (pw_b1 (by omega) (by omega)) (by omega) (by omega) (by omega) (by omega) rfl ?_
      intro h17I h17E
      generalize h17w : pw_w h14 103 ((pw_g h14 100 3).toNat) (pw_i z) = h17 at h17I h17E ⊢
      have h17F := h14F.tr (h17E.wk (W' := [100, 101, 102, 103]) (by first | rfl | simp))
      refine pw_ld E (pc' := 40) (st' := [.ref 116]) rfl (fun _ => rfl) ?_
      refine pw_ld E (pc' := 41) (st' := [.ref 116, .ref 116]) rfl (fun _ => rfl) ?_
      have he19 : pw_g h17 100 3 = pw_g h14 100 3 := by rw [← h17w]; exact pw_g_ne (by omega)
      refine pw_getI2 h17I E (c := 100) (k := 3) (pc' := 44) rfl rfl rfl rfl rfl rfl (fun hf18a hf18b => ?_)
      refine pw_ld E (pc' := 45) (st' := [pw_i 1, pw_i (pw_g h17 100 3), .ref 116]) rfl (fun _ => rfl) ?_
      refine pw_add E (pc' := 46) rfl rfl ?_
      refine pw_putI h17I E (c := 100) (k := 3) (pc' := 49) rfl rfl rfl rfl (by omega) (by omega) (by omega) (by omega) rfl rfl ?_
      intro h20I h20E
      generalize h20w : pw_w h17 100 3 (pw_i ((pw_g h17 100 3) + 1)) = h20 at h20I h20E ⊢
      have h20F := h17F.tr (h20E.wk (W' := [100, 101, 102, 103]) (by first | rfl | simp))
      refine pw_ld E (pc' := 50) (st' := [.ref 116]) rfl (fun _ => rfl) ?_
      have he22 : pw_g h20 100 3 = (pw_g h17 100 3) + 1 := by rw [← h20w]; exact pw_g_eq (c := 100) (k := 3) h17I rfl rfl (by omega) (by omega)
      refine pw_getI2 h20I E (c := 100) (k := 3) (pc' := 53) rfl rfl rfl rfl rfl rfl (fun hf21a hf21b => ?_)
      refine pw_ld E (pc' := 54) (st' := [pw_i 1, pw_i (pw_g h20 100 3)]) rfl (fun _ => rfl) ?_
      refine pw_sub E (pc' := 55) rfl rfl ?_
      refine pw_iret E rfl ?_
      have hl24 : ∀ j : Nat, pw_g h20 101 j = pw_g h11 101 j := fun j => (((by rw [← h20w]; exact pw_g_ne (by omega) : pw_g h20 101 j = pw_g h17 101 j)).trans (by rw [← h17w]; exact pw_g_ne (by omega) : pw_g h17 101 j = pw_g h14 101 j)).trans (by rw [← h14w]; exact pw_g_ne (by omega) : pw_g h14 101 j = pw_g h11 101 j)
      have hl25 : ∀ j : Nat, pw_g h 101 j = pw_g h 101 j := fun j => rfl
      have hu23i : (pw_g h 100 3).toNat = (pw_g h 100 3).toNat := by omega
      have hu23a : pw_g h11 101 ((pw_g h 100 3).toNat) = su := by rw [← h11w]; exact pw_g_eqA I rfl (by omega) (by omega) (by omega)
      have hu23b : ∀ j : Nat, j ≠ (pw_g h 100 3).toNat → pw_g h11 101 j = pw_g h 101 j := fun j hj => by rw [← h11w]; exact pw_g_ne (fun q => hj q.2.symm)
      rw [hu23i] at hu23a hu23b
      have hl27 : ∀ j : Nat, pw_g h20 102 j = pw_g h14 102 j := fun j => ((by rw [← h20w]; exact pw_g_ne (by omega) : pw_g h20 102 j = pw_g h17 102 j)).trans (by rw [← h17w]; exact pw_g_ne (by omega) : pw_g h17 102 j = pw_g h14 102 j)
      have hl28 : ∀ j : Nat, pw_g h11 102 j = pw_g h 102 j := fun j => (by rw [← h11w]; exact pw_g_ne (by omega) : pw_g h11 102 j = pw_g h 102 j)
      have hu26i : (pw_g h11 100 3).toNat = (pw_g h 100 3).toNat := by omega
      have hu26a : pw_g h14 102 ((pw_g h11 100 3).toNat) = n := by rw [← h14w]; exact pw_g_eqA h11I rfl (by omega) (by omega) (by omega)
      have hu26b : ∀ j : Nat, j ≠ (pw_g h11 100 3).toNat → pw_g h14 102 j = pw_g h11 102 j := fun j hj => by rw [← h14w]; exact pw_g_ne (fun q => hj q.2.symm)
      rw [hu26i] at hu26a hu26b
      have hl30 : ∀ j : Nat, pw_g h20 103 j = pw_g h17 103 j := fun j => (by rw [← h20w]; exact pw_g_ne (by omega) : pw_g h20 103 j = pw_g h17 103 j)
      have hl31 : ∀ j : Nat, pw_g h14 103 j = pw_g h 103 j := fun j => ((by rw [← h14w]; exact pw_g_ne (by omega) : pw_g h14 103 j = pw_g h11 103 j)).trans (by rw [← h11w]; exact pw_g_ne (by omega) : pw_g h11 103 j = pw_g h 103 j)
      have hu29i : (pw_g h14 100 3).toNat = (pw_g h 100 3).toNat := by omega
      have hu29a : pw_g h17 103 ((pw_g h14 100 3).toNat) = z := by rw [← h17w]; exact pw_g_eqA h14I rfl (by omega) (by omega) (by omega)
      have hu29b : ∀ j : Nat, j ≠ (pw_g h14 100 3).toNat → pw_g h17 103 j = pw_g h14 103 j := fun j hj => by rw [← h17w]; exact pw_g_ne (fun q => hj q.2.symm)
      rw [hu29i] at hu29a hu29b
      exact ⟨h20I, h20F, ⟨_, rfl, by omega, by omega, Or.inl ⟨by omega, by omega, by omega, ⟨(hl24 _).trans hu23a, fun j hj => (hl24 j).trans ((hu23b j hj).trans (hl25 j))⟩, ⟨(hl27 _).trans hu26a, fun j hj => (hl27 j).trans ((hu26b j hj).trans (hl28 j))⟩, ⟨(hl30 _).trans hu29a, fun j hj => (hl30 j).trans ((hu29b j hj).trans (hl31 j))⟩⟩⟩⟩
    · intro hc32
      change ¬ (x4 = (0 : Int)) at hc32
      exfalso; omega
set_option maxHeartbeats 4000000 in
theorem cm_151_o {X : List (Nat × List Value)} {d : Nat} {h : pm_H} (hd : 3 ≤ d) (I : pw_I h) (su : Int) (hsu1 : (-2147483648) ≤ su) (hsu2 : su ≤ 2147483647) (n : Int) (hn1 : (-2147483648) ≤ n) (hn2 : n ≤ 2147483647) (z : Int) (hz1 : 0 ≤ z) (hz2 : z ≤ 1) : pw X d h 151 0 [some (.ref 16), some (pw_i su), some (pw_i n), some (pw_i z)] [] (fun h' v => pw_I h' ∧ pw_E [100, 101, 102, 103] h h' ∧ ∃ a : Int, v = .inl (some (pw_i a)) ∧ (-2147483648) ≤ a ∧ a ≤ 2147483647 ∧ ((((-9999) ≤ su ∧ su ≤ 9999 ∧ 1 ≤ n ∧ n ≤ 999 ∧ pw_g h 100 3 < 20) ∧ a = pw_g h 100 3 ∧ pw_g h' 100 3 = pw_g h 100 3 + 1 ∧ pw_up h h' 101 (pw_g h 100 3) (su) ∧ pw_up h h' 102 (pw_g h 100 3) (n) ∧ pw_up h h' 103 (pw_g h 100 3) (z)) ∨ (¬ ((-9999) ≤ su ∧ su ≤ 9999 ∧ 1 ≤ n ∧ n ≤ 999 ∧ pw_g h 100 3 < 20) ∧ a = -1 ∧ pw_g h' 100 3 = pw_g h 100 3 ∧ pw_sm h h' 101 ∧ pw_sm h h' 102 ∧ pw_sm h h' 103))) := by
  have E : pm_ent 151 = some (4, 4, 11, 0, pmc_151) := rfl
  have E0 : pw_E [100, 101, 102, 103] h h := pw_E.rf _ _
  refine pw_ld E (pc' := 1) (st' := [pw_i su]) rfl (fun _ => rfl) ?_
  refine pw_sip E (pc' := 4) rfl rfl (by decide) ?_
  refine pw_sip E (pc' := 7) rfl rfl (by decide) ?_
  refine pw_call (m' := 121) (As := [pw_i su, pw_i ((-9999)), pw_i 9999]) (rest := []) (ls'' := [some (pw_i su), some (pw_i ((-9999))), some (pw_i 9999)]) (Nat.le_trans (by decide) hd) E rfl (fun _ => pw_iS rfl rfl rfl) (rfl : pm_ent 121 = some (3, 3, 11, 1, pmc_121)) rfl rfl (cm_121 (pw_dp hd (by decide)) I (su) (by omega) (by omega) ((-9999)) (by omega) (by omega) (9999) (by omega) (by omega)) ?_
  rintro u2 v1 ⟨rfl, x3, rfl, hx3a, hx3b, hx3r⟩
  refine ⟨_, rfl, ?_⟩
  show pw X d h 151 10 [some (.ref 16), some (pw_i su), some (pw_i n), some (pw_i z)] [pw_i x3] _
  change (x3 = 1 ∧ (-9999) ≤ su ∧ su ≤ 9999) ∨ (x3 = 0 ∧ ¬ ((-9999) ≤ su ∧ su ≤ 9999)) at hx3r
  rcases (by omega : x3 = 1 ∨ x3 = 0) with hb4 | hb4
  · skip
    refine pw_if E (pc' := 34) rfl (by decide) (by omega) (by omega) ?_ ?_
    · intro hc5
      change x3 = (0 : Int) at hc5
      exfalso; omega
    · intro hc6
      change ¬ (x3 = (0 : Int)) at hc6
      refine pw_ld E (pc' := 14) (st' := [pw_i n]) rfl (fun _ => rfl) ?_
      refine pw_ld E (pc' := 15) (st' := [pw_i 1, pw_i n]) rfl (fun _ => rfl) ?_
      refine pw_sip E (pc' := 18) rfl rfl (by decide) ?_
      refine pw_call (m' := 121) (As := [pw_i n, pw_i 1, pw_i 999]) (rest := []) (ls'' := [some (pw_i n), some (pw_i 1), some (pw_i 999)]) (Nat.le_trans (by decide) hd) E rfl (fun _ => pw_iS rfl rfl rfl) (rfl : pm_ent 121 = some (3, 3, 11, 1, pmc_121)) rfl rfl (cm_121 (pw_dp hd (by decide)) I (n) (by omega) (by omega) (1) (by omega) (by omega) (999) (by omega) (by omega)) ?_
      rintro u8 v7 ⟨rfl, x9, rfl, hx9a, hx9b, hx9r⟩
      refine ⟨_, rfl, ?_⟩
      show pw X d h 151 21 [some (.ref 16), some (pw_i su), some (pw_i n), some (pw_i z)] [pw_i x9] _
      change (x9 = 1 ∧ 1 ≤ n ∧ n ≤ 999) ∨ (x9 = 0 ∧ ¬ (1 ≤ n ∧ n ≤ 999)) at hx9r
      rcases (by omega : x9 = 1 ∨ x9 = 0) with hb10 | hb10
      · skip
        refine pw_if E (pc' := 34) rfl (by decide) (by omega) (by omega) ?_ ?_
        · intro hc11
          change x9 = (0 : Int) at hc11
          exfalso; omega
        · intro hc12
          change ¬ (x9 = (0 : Int)) at hc12
          refine pw_ld E (pc' := 25) (st' := [.ref 16]) rfl (fun _ => rfl) ?_
          refine pw_getR (b := 116) I E (c := 0) (k := 18) (pc' := 28) rfl rfl rfl rfl rfl rfl rfl ?_
          obtain ⟨f13l, f13h, -⟩ := pw_obj (c := 100) I rfl
          refine pw_call (m' := 36) (As := [.ref 116]) (rest := []) (ls'' := [some (.ref 116)]) (Nat.le_trans (by decide) hd) E rfl (fun _ => pw_iV rfl rfl rfl rfl (pw_cellI f13h rfl)) (rfl : pm_ent 36 = some (1, 1, 4, 1, pmc_36)) rfl rfl (cm_36 (pw_dp hd (by decide)) I ) ?_
          rintro u15 v14 ⟨rfl, x16, rfl, hx16a, hx16b, hx16r⟩
          refine ⟨_, rfl, ?_⟩
          show pw X d h 151 31 [some (.ref 16), some (pw_i su), some (pw_i n), some (pw_i z)] [pw_i x16] _
          change (x16 = 1 ∧ 20 ≤ pw_g h 100 3) ∨ (x16 = 0 ∧ pw_g h 100 3 < 20) at hx16r
          rcases (by omega : x16 = 1 ∨ x16 = 0) with hb17 | hb17
          · skip
            refine pw_if E (pc' := 36) rfl (by decide) (by omega) (by omega) ?_ ?_
            · intro hc18
              change x16 = (0 : Int) at hc18
              exfalso; omega
            · intro hc19
              change ¬ (x16 = (0 : Int)) at hc19
              refine pw_ld E (pc' := 35) (st' := [pw_i ((-1))]) rfl (fun _ => rfl) ?_
              refine pw_iret E rfl ?_
              exact ⟨I, E0, ⟨_, rfl, by omega, by omega, Or.inr ⟨by omega, rfl, rfl, fun _ => rfl, fun _ => rfl, fun _ => rfl⟩⟩⟩
          · skip
            refine pw_if E (pc' := 36) rfl (by decide) (by omega) (by omega) ?_ ?_
            · intro hc21
              change x16 = (0 : Int) at hc21
              refine pw_ld E (pc' := 37) (st' := [.ref 16]) rfl (fun _ => rfl) ?_
              refine pw_getR (b := 116) I E (c := 0) (k := 18) (pc' := 40) rfl rfl rfl rfl rfl rfl rfl ?_
              refine pw_ld E (pc' := 41) (st' := [pw_i su, .ref 116]) rfl (fun _ => rfl) ?_
              refine pw_ld E (pc' := 42) (st' := [pw_i n, pw_i su, .ref 116]) rfl (fun _ => rfl) ?_
              refine pw_ld E (pc' := 43) (st' := [pw_i z, pw_i n, pw_i su, .ref 116]) rfl (fun _ => rfl) ?_
              obtain ⟨f22l, f22h, -⟩ := pw_obj (c := 100) I rfl
              refine pw_call (m' := 37) (As := [.ref 116, pw_i su, pw_i n, pw_i z]) (rest := []) (ls'' := [some (.ref 116), some (pw_i su), some (pw_i n), some (pw_i z)]) (Nat.le_trans (by decide) hd) E rfl (fun _ => pw_iV rfl rfl rfl rfl (pw_cellI f22h rfl)) (rfl : pm_ent 37 = some (4, 4, 4, 0, pmc_37)) rfl rfl (cm_37_o (pw_dp hd (by decide)) I (su) (by omega) (by omega) (n) (by omega) (by omega) (z) (by omega) (by omega)) ?_
              rintro h23 v24 ⟨h23I, h23E, x25, rfl, hx25a, hx25b, hx25r⟩
              refine ⟨_, rfl, ?_⟩
              have h23F := E0.tr (h23E.wk (W' := [100, 101, 102, 103]) (by first | rfl | simp))
              show pw X d h23 151 46 [some (.ref 16), some (pw_i su), some (pw_i n), some (pw_i z)] [pw_i x25] _
              change (pw_g h 100 3 < 20 ∧ x25 = pw_g h 100 3 ∧ pw_g h23 100 3 = pw_g h 100 3 + 1 ∧ pw_up h h23 101 (pw_g h 100 3) (su) ∧ pw_up h h23 102 (pw_g h 100 3) (n) ∧ pw_up h h23 103 (pw_g h 100 3) (z)) ∨ (20 ≤ pw_g h 100 3 ∧ x25 = -1 ∧ pw_g h23 100 3 = pw_g h 100 3 ∧ pw_sm h h23 101 ∧ pw_sm h h23 102 ∧ pw_sm h h23 103) at hx25r
              refine pw_iret E rfl ?_
              exact ⟨h23I, h23F, ⟨_, rfl, by omega, by omega, Or.inl ⟨by omega, (hx25r.resolve_right (fun e => by omega)).2⟩⟩⟩
            · intro hc26
              change ¬ (x16 = (0 : Int)) at hc26
              exfalso; omega
      · skip
        refine pw_if E (pc' := 34) rfl (by decide) (by omega) (by omega) ?_ ?_
        · intro hc28
          change x9 = (0 : Int) at hc28
          refine pw_ld E (pc' := 35) (st' := [pw_i ((-1))]) rfl (fun _ => rfl) ?_
          refine pw_iret E rfl ?_
          exact ⟨I, E0, ⟨_, rfl, by omega, by omega, Or.inr ⟨by omega, rfl, rfl, fun _ => rfl, fun _ => rfl, fun _ => rfl⟩⟩⟩
        · intro hc29
          change ¬ (x9 = (0 : Int)) at hc29
          exfalso; omega
  · skip
    refine pw_if E (pc' := 34) rfl (by decide) (by omega) (by omega) ?_ ?_
    · intro hc31
      change x3 = (0 : Int) at hc31
      refine pw_ld E (pc' := 35) (st' := [pw_i ((-1))]) rfl (fun _ => rfl) ?_
      refine pw_iret E rfl ?_
      exact ⟨I, E0, ⟨_, rfl, by omega, by omega, Or.inr ⟨by omega, rfl, rfl, fun _ => rfl, fun _ => rfl, fun _ => rfl⟩⟩⟩
    · intro hc32
      change ¬ (x3 = (0 : Int)) at hc32
      exfalso; omega
set_option maxHeartbeats 4000000 in
theorem cm_273_o {X : List (Nat × List Value)} {d : Nat} {h : pm_H} (hd : 2 ≤ d) (I : pw_I h) (su : Int) (hsu1 : (-2147483648) ≤ su) (hsu2 : su ≤ 2147483647) (n : Int) (hn1 : (-2147483648) ≤ n) (hn2 : n ≤ 2147483647) (z : Int) (hz1 : 0 ≤ z) (hz2 : z ≤ 1) : pw X d h 273 0 [some (.ref 141), some (pw_i su), some (pw_i n), some (pw_i z)] [] (fun h' v => pw_I h' ∧ pw_E [125, 154, 155, 156, 1041] h h' ∧ ∃ a : Int, v = .inl (some (pw_i a)) ∧ (-2147483648) ≤ a ∧ a ≤ 2147483647 ∧ ((((-9999) ≤ su ∧ su ≤ 9999 ∧ 1 ≤ n ∧ n ≤ 999 ∧ pw_g h 125 41 < 20) ∧ a = pw_g h 125 41 ∧ pw_g h' 125 41 = pw_g h 125 41 + 1 ∧ pw_up h h' 154 (pw_g h 125 41) (su) ∧ pw_up h h' 155 (pw_g h 125 41) (n) ∧ pw_up h h' 156 (pw_g h 125 41) (z)) ∨ (¬ ((-9999) ≤ su ∧ su ≤ 9999 ∧ 1 ≤ n ∧ n ≤ 999 ∧ pw_g h 125 41 < 20) ∧ a = -1 ∧ pw_g h' 125 41 = pw_g h 125 41 ∧ pw_sm h h' 154 ∧ pw_sm h h' 155 ∧ pw_sm h h' 156))) := by
  have E : pm_ent 273 = some (4, 4, 12, 0, pmc_273) := rfl
  have E0 : pw_E [125, 154, 155, 156, 1041] h h := pw_E.rf _ _
  refine pw_ld E (pc' := 1) (st' := [.ref 141]) rfl (fun _ => rfl) ?_
  refine pw_ld E (pc' := 2) (st' := [pw_i 0, .ref 141]) rfl (fun _ => rfl) ?_
  refine pw_putI I E (c := 125) (k := 0) (pc' := 5) rfl rfl rfl rfl (by omega) (by omega) (by omega) (by omega) rfl rfl ?_
  intro h1I h1E
  generalize h1w : pw_w h 125 0 (pw_i 0) = h1 at h1I h1E ⊢
  have h1F := E0.tr (h1E.wk (W' := [125, 154, 155, 156, 1041]) (by first | rfl | simp))
  refine pw_ld E (pc' := 6) (st' := [pw_i su]) rfl (fun _ => rfl) ?_
  refine pw_sip E (pc' := 9) rfl rfl (by decide) ?_
  refine pw_sip E (pc' := 12) rfl rfl (by decide) ?_
  refine pw_call (m' := 202) (As := [pw_i su, pw_i ((-9999)), pw_i 9999]) (rest := []) (ls'' := [some (pw_i su), some (pw_i ((-9999))), some (pw_i 9999)]) (Nat.le_trans (by decide) hd) E rfl (fun _ => pw_iS rfl rfl rfl) (rfl : pm_ent 202 = some (3, 3, 12, 1, pmc_202)) rfl rfl (cm_202 (pw_dp hd (by decide)) h1I (su) (by omega) (by omega) ((-9999)) (by omega) (by omega) (9999) (by omega) (by omega)) ?_
  rintro u3 v2 ⟨rfl, x4, rfl, hx4a, hx4b, hx4r⟩
  refine ⟨_, rfl, ?_⟩
  show pw X d h1 273 15 [some (.ref 141), some (pw_i su), some (pw_i n), some (pw_i z)] [pw_i x4] _
  change (x4 = 1 ∧ (-9999) ≤ su ∧ su ≤ 9999) ∨ (x4 = 0 ∧ ¬ ((-9999) ≤ su ∧ su ≤ 9999)) at hx4r
  rcases (by omega : x4 = 1 ∨ x4 = 0) with hb5 | hb5
  · skip
    refine pw_if E (pc' := 38) rfl (by decide) (by omega) (by omega) ?_ ?_
    · intro hc6
      change x4 = (0 : Int) at hc6
      exfalso; omega
    · intro hc7
      change ¬ (x4 = (0 : Int)) at hc7
      refine pw_ld E (pc' := 19) (st' := [pw_i n]) rfl (fun _ => rfl) ?_
      refine pw_ld E (pc' := 20) (st' := [pw_i 1, pw_i n]) rfl (fun _ => rfl) ?_
      refine pw_sip E (pc' := 23) rfl rfl (by decide) ?_
      refine pw_call (m' := 202) (As := [pw_i n, pw_i 1, pw_i 999]) (rest := []) (ls'' := [some (pw_i n), some (pw_i 1), some (pw_i 999)]) (Nat.le_trans (by decide) hd) E rfl (fun _ => pw_iS rfl rfl rfl) (rfl : pm_ent 202 = some (3, 3, 12, 1, pmc_202)) rfl rfl (cm_202 (pw_dp hd (by decide)) h1I (n) (by omega) (by omega) (1) (by omega) (by omega) (999) (by omega) (by omega)) ?_
      rintro u9 v8 ⟨rfl, x10, rfl, hx10a, hx10b, hx10r⟩
      refine ⟨_, rfl, ?_⟩
      show pw X d h1 273 26 [some (.ref 141), some (pw_i su), some (pw_i n), some (pw_i z)] [pw_i x10] _
      change (x10 = 1 ∧ 1 ≤ n ∧ n ≤ 999) ∨ (x10 = 0 ∧ ¬ (1 ≤ n ∧ n ≤ 999)) at hx10r
      rcases (by omega : x10 = 1 ∨ x10 = 0) with hb11 | hb11
      · skip
        refine pw_if E (pc' := 38) rfl (by decide) (by omega) (by omega) ?_ ?_
        · intro hc12
          change x10 = (0 : Int) at hc12
          exfalso; omega
        · intro hc13
          change ¬ (x10 = (0 : Int)) at hc13
          refine pw_ld E (pc' := 30) (st' := [.ref 141]) rfl (fun _ => rfl) ?_
          have he15 : pw_g h1 125 41 = pw_g h 125 41 := by rw [← h1w]; exact pw_g_ne (by omega)
          refine pw_getI2 h1I E (c := 125) (k := 41) (pc' := 33) rfl rfl rfl rfl rfl rfl (fun hf14a hf14b => ?_)
          refine pw_bip E (pc' := 35) rfl rfl (by decide) ?_
          refine pw_if2 E (pc' := 40) rfl (by decide) (by omega) (by omega) (by decide) (by decide) ?_ ?_
          · intro hc16
            change pw_g h1 125 41 ≠ (20 : Int) at hc16
            refine pw_ld E (pc' := 41) (st' := [.ref 141]) rfl (fun _ => rfl) ?_
            refine pw_getR (b := 170) h1I E (c := 125) (k := 42) (pc' := 44) rfl rfl rfl rfl rfl rfl rfl ?_
            refine pw_ld E (pc' := 45) (st' := [.ref 141, .ref 170]) rfl (fun _ => rfl) ?_
            refine pw_getI2 h1I E (c := 125) (k := 41) (pc' := 48) rfl rfl rfl rfl rfl rfl (fun hf17a hf17b => ?_)
            refine pw_ld E (pc' := 49) (st' := [pw_i su, pw_i (pw_g h1 125 41), .ref 170]) rfl (fun _ => rfl) ?_
            refine pw_ast0 h1I E (c := 154) (pc' := 50) rfl rfl rfl (by decide) rfl (by decide) (by omega) (by omega) rfl (by omega) (by omega) (by omega) (by omega) rfl ?_
            intro h18I h18E
            generalize h18w : pw_w h1 154 ((pw_g h1 125 41).toNat) (pw_i su) = h18 at h18I h18E ⊢
            have h18F := h1F.tr (h18E.wk (W' := [125, 154, 155, 156, 1041]) (by first | rfl | simp))
            refine pw_ld E (pc' := 51) (st' := [.ref 141]) rfl (fun _ => rfl) ?_
            refine pw_getR (b := 171) h18I E (c := 125) (k := 43) (pc' := 54) rfl rfl rfl rfl rfl rfl rfl ?_
            refine pw_ld E (pc' := 55) (st' := [.ref 141, .ref 171]) rfl (fun _ => rfl) ?_
            have he20 : pw_g h18 125 41 = pw_g h1 125 41 := by rw [← h18w]; exact pw_g_ne (by omega)
            refine pw_getI2 h18I E (c := 125) (k := 41) (pc' := 58) rfl rfl rfl rfl rfl rfl (fun hf19a hf19b => ?_)
            refine pw_ld E (pc' := 59) (st' := [pw_i n, pw_i (pw_g h18 125 41), .ref 171]) rfl (fun _ => rfl) ?_
            refine pw_ast0 h18I E (c := 155) (pc' := 60) rfl rfl rfl (by decide) rfl (by decide) (by omega) (by omega) rfl (by omega) (by omega) (by omega) (by omega) rfl ?_
            intro h21I h21E
            generalize h21w : pw_w h18 155 ((pw_g h18 125 41).toNat) (pw_i n) = h21 at h21I h21E ⊢
            have h21F := h18F.tr (h21E.wk (W' := [125, 154, 155, 156, 1041]) (by first | rfl | simp))
            refine pw_ld E (pc' := 61) (st' := [.ref 141]) rfl (fun _ => rfl) ?_
            refine pw_getR (b := 172) h21I E (c := 125) (k := 44) (pc' := 64) rfl rfl rfl rfl rfl rfl rfl ?_
            refine pw_ld E (pc' := 65) (st' := [.ref 141, .ref 172]) rfl (fun _ => rfl) ?_
            have he23 : pw_g h21 125 41 = pw_g h18 125 41 := by rw [← h21w]; exact pw_g_ne (by omega)
            refine pw_getI2 h21I E (c := 125) (k := 41) (pc' := 68) rfl rfl rfl rfl rfl rfl (fun hf22a hf22b => ?_)
            refine pw_ld E (pc' := 69) (st' := [pw_i z, pw_i (pw_g h21 125 41), .ref 172]) rfl (fun _ => rfl) ?_
            refine pw_ast0 h21I E (c := 156) (pc' := 70) rfl rfl rfl (by decide) rfl (by decide) (by omega) (by omega) (pw_b1 (by omega) (by omega)) (by omega) (by omega) (by omega) (by omega) rfl ?_
            intro h24I h24E
            generalize h24w : pw_w h21 156 ((pw_g h21 125 41).toNat) (pw_i z) = h24 at h24I h24E ⊢
            have h24F := h21F.tr (h24E.wk (W' := [125, 154, 155, 156, 1041]) (by first | rfl | simp))
            refine pw_ld E (pc' := 71) (st' := [.ref 141]) rfl (fun _ => rfl) ?_
            refine pw_ld E (pc' := 72) (st' := [.ref 141, .ref 141]) rfl (fun _ => rfl) ?_
            have he26 : pw_g h24 125 41 = pw_g h21 125 41 := by rw [← h24w]; exact pw_g_ne (by omega)
            refine pw_getI2 h24I E (c := 125) (k := 41) (pc' := 75) rfl rfl rfl rfl rfl rfl (fun hf25a hf25b => ?_)
            refine pw_ld E (pc' := 76) (st' := [pw_i 1, pw_i (pw_g h24 125 41), .ref 141]) rfl (fun _ => rfl) ?_
            refine pw_add E (pc' := 77) rfl rfl ?_
            refine pw_putP h24I E (k := 41) (pc' := 80) rfl rfl rfl rfl (by omega) (by omega) (by omega) (by omega) rfl rfl ?_
            intro h27I h27E
            generalize h27w : pw_w h24 125 41 (pw_i ((pw_g h24 125 41) + 1)) = h27 at h27I h27E ⊢
            have h27F := h24F.tr (h27E.wk (W' := [125, 154, 155, 156, 1041]) (by first | rfl | simp))
            refine pw_ld E (pc' := 81) (st' := [.ref 141]) rfl (fun _ => rfl) ?_
            have he29 : pw_g h27 125 41 = (pw_g h24 125 41) + 1 := by rw [← h27w]; exact pw_g_eq (c := 125) (k := 41) h24I rfl rfl (by omega) (by omega)
            refine pw_getI2 h27I E (c := 125) (k := 41) (pc' := 84) rfl rfl rfl rfl rfl rfl (fun hf28a hf28b => ?_)
            refine pw_ld E (pc' := 85) (st' := [pw_i 1, pw_i (pw_g h27 125 41)]) rfl (fun _ => rfl) ?_
            refine pw_sub E (pc' := 86) rfl rfl ?_
            refine pw_iret E rfl ?_
            have hl31 : ∀ j : Nat, pw_g h27 154 j = pw_g h18 154 j := fun j => (((by rw [← h27w]; exact pw_g_ne (by omega) : pw_g h27 154 j = pw_g h24 154 j)).trans (by rw [← h24w]; exact pw_g_ne (by omega) : pw_g h24 154 j = pw_g h21 154 j)).trans (by rw [← h21w]; exact pw_g_ne (by omega) : pw_g h21 154 j = pw_g h18 154 j)
            have hl32 : ∀ j : Nat, pw_g h1 154 j = pw_g h 154 j := fun j => (by rw [← h1w]; exact pw_g_ne (by omega) : pw_g h1 154 j = pw_g h 154 j)
            have hu30i : (pw_g h1 125 41).toNat = (pw_g h 125 41).toNat := by omega
            have hu30a : pw_g h18 154 ((pw_g h1 125 41).toNat) = su := by rw [← h18w]; exact pw_g_eqA h1I rfl (by omega) (by omega) (by omega)
            have hu30b : ∀ j : Nat, j ≠ (pw_g h1 125 41).toNat → pw_g h18 154 j = pw_g h1 154 j := fun j hj => by rw [← h18w]; exact pw_g_ne (fun q => hj q.2.symm)
            rw [hu30i] at hu30a hu30b
            have hl34 : ∀ j : Nat, pw_g h27 155 j = pw_g h21 155 j := fun j => ((by rw [← h27w]; exact pw_g_ne (by omega) : pw_g h27 155 j = pw_g h24 155 j)).trans (by rw [← h24w]; exact pw_g_ne (by omega) : pw_g h24 155 j = pw_g h21 155 j)
            have hl35 : ∀ j : Nat, pw_g h18 155 j = pw_g h 155 j := fun j => ((by rw [← h18w]; exact pw_g_ne (by omega) : pw_g h18 155 j = pw_g h1 155 j)).trans (by rw [← h1w]; exact pw_g_ne (by omega) : pw_g h1 155 j = pw_g h 155 j)
            have hu33i : (pw_g h18 125 41).toNat = (pw_g h 125 41).toNat := by omega
            have hu33a : pw_g h21 155 ((pw_g h18 125 41).toNat) = n := by rw [← h21w]; exact pw_g_eqA h18I rfl (by omega) (by omega) (by omega)
            have hu33b : ∀ j : Nat, j ≠ (pw_g h18 125 41).toNat → pw_g h21 155 j = pw_g h18 155 j := fun j hj => by rw [← h21w]; exact pw_g_ne (fun q => hj q.2.symm)
            rw [hu33i] at hu33a hu33b
            have hl37 : ∀ j : Nat, pw_g h27 156 j = pw_g h24 156 j := fun j => (by rw [← h27w]; exact pw_g_ne (by omega) : pw_g h27 156 j = pw_g h24 156 j)
            have hl38 : ∀ j : Nat, pw_g h21 156 j = pw_g h 156 j := fun j => (((by rw [← h21w]; exact pw_g_ne (by omega) : pw_g h21 156 j = pw_g h18 156 j)).trans (by rw [← h18w]; exact pw_g_ne (by omega) : pw_g h18 156 j = pw_g h1 156 j)).trans (by rw [← h1w]; exact pw_g_ne (by omega) : pw_g h1 156 j = pw_g h 156 j)
            have hu36i : (pw_g h21 125 41).toNat = (pw_g h 125 41).toNat := by omega
            have hu36a : pw_g h24 156 ((pw_g h21 125 41).toNat) = z := by rw [← h24w]; exact pw_g_eqA h21I rfl (by omega) (by omega) (by omega)
            have hu36b : ∀ j : Nat, j ≠ (pw_g h21 125 41).toNat → pw_g h24 156 j = pw_g h21 156 j := fun j hj => by rw [← h24w]; exact pw_g_ne (fun q => hj q.2.symm)
            rw [hu36i] at hu36a hu36b
            exact ⟨h27I, h27F, ⟨_, rfl, by omega, by omega, Or.inl ⟨by omega, by omega, by omega, ⟨(hl31 _).trans hu30a, fun j hj => (hl31 j).trans ((hu30b j hj).trans (hl32 j))⟩, ⟨(hl34 _).trans hu33a, fun j hj => (hl34 j).trans ((hu33b j hj).trans (hl35 j))⟩, ⟨(hl37 _).trans hu36a, fun j hj => (hl37 j).trans ((hu36b j hj).trans (hl38 j))⟩⟩⟩⟩
          · intro hc39
            change ¬ (pw_g h1 125 41 ≠ (20 : Int)) at hc39
            refine pw_ld E (pc' := 39) (st' := [pw_i ((-1))]) rfl (fun _ => rfl) ?_
            refine pw_iret E rfl ?_
            have hl40 : ∀ j : Nat, pw_g h1 154 j = pw_g h 154 j := fun j => (by rw [← h1w]; exact pw_g_ne (by omega) : pw_g h1 154 j = pw_g h 154 j)
            have hl41 : ∀ j : Nat, pw_g h1 155 j = pw_g h 155 j := fun j => (by rw [← h1w]; exact pw_g_ne (by omega) : pw_g h1 155 j = pw_g h 155 j)
            have hl42 : ∀ j : Nat, pw_g h1 156 j = pw_g h 156 j := fun j => (by rw [← h1w]; exact pw_g_ne (by omega) : pw_g h1 156 j = pw_g h 156 j)
            exact ⟨h1I, h1F, ⟨_, rfl, by omega, by omega, Or.inr ⟨by omega, rfl, by omega, hl40, hl41, hl42⟩⟩⟩
      · skip
        refine pw_if E (pc' := 38) rfl (by decide) (by omega) (by omega) ?_ ?_
        · intro hc44
          change x10 = (0 : Int) at hc44
          refine pw_ld E (pc' := 39) (st' := [pw_i ((-1))]) rfl (fun _ => rfl) ?_
          refine pw_iret E rfl ?_
          have he45 : pw_g h1 125 41 = pw_g h 125 41 := by rw [← h1w]; exact pw_g_ne (by omega)
          have hl46 : ∀ j : Nat, pw_g h1 154 j = pw_g h 154 j := fun j => (by rw [← h1w]; exact pw_g_ne (by omega) : pw_g h1 154 j = pw_g h 154 j)
          have hl47 : ∀ j : Nat, pw_g h1 155 j = pw_g h 155 j := fun j => (by rw [← h1w]; exact pw_g_ne (by omega) : pw_g h1 155 j = pw_g h 155 j)
          have hl48 : ∀ j : Nat, pw_g h1 156 j = pw_g h 156 j := fun j => (by rw [← h1w]; exact pw_g_ne (by omega) : pw_g h1 156 j = pw_g h 156 j)
          exact ⟨h1I, h1F, ⟨_, rfl, by omega, by omega, Or.inr ⟨by omega, rfl, by omega, hl46, hl47, hl48⟩⟩⟩
        · intro hc49
          change ¬ (x10 = (0 : Int)) at hc49
          exfalso; omega
  · skip
    refine pw_if E (pc' := 38) rfl (by decide) (by omega) (by omega) ?_ ?_
    · intro hc51
      change x4 = (0 : Int) at hc51
      refine pw_ld E (pc' := 39) (st' := [pw_i ((-1))]) rfl (fun _ => rfl) ?_
      refine pw_iret E rfl ?_
      have he52 : pw_g h1 125 41 = pw_g h 125 41 := by rw [← h1w]; exact pw_g_ne (by omega)
      have hl53 : ∀ j : Nat, pw_g h1 154 j = pw_g h 154 j := fun j => (by rw [← h1w]; exact pw_g_ne (by omega) : pw_g h1 154 j = pw_g h 154 j)
      have hl54 : ∀ j : Nat, pw_g h1 155 j = pw_g h 155 j := fun j => (by rw [← h1w]; exact pw_g_ne (by omega) : pw_g h1 155 j = pw_g h 155 j)
      have hl55 : ∀ j : Nat, pw_g h1 156 j = pw_g h 156 j := fun j => (by rw [← h1w]; exact pw_g_ne (by omega) : pw_g h1 156 j = pw_g h 156 j)
      exact ⟨h1I, h1F, ⟨_, rfl, by omega, by omega, Or.inr ⟨by omega, rfl, by omega, hl53, hl54, hl55⟩⟩⟩
    · intro hc56
      change ¬ (x4 = (0 : Int)) at hc56
      exfalso; omega
end
section
/-! the greatest common divisor and fractions, exactly (printed by wip/tool/mgcd.py) -/
theorem pw_remB {a b : Int} (h : 0 < b) : 0 ≤ a % b ∧ a % b < b := ⟨Int.emod_nonneg _ (by omega), Int.emod_lt_of_pos _ h⟩
section Pg
variable {X : List (Nat × List Value)} {d : Nat} {h : pm_H} {m pc pc' len na nl own rt : Nat} {C : pm_T (Instr × Nat)} {ls : pm_L} {r : List Value} {Q : pm_H → (Option Value ⊕ Unit) → Prop}
theorem pw_lremC {a b : Int} (he : pm_ent m = some (na, nl, own, rt, C)) (hq : pm_get C pc = some (.lrem, len)) (hc : pc + len = pc') (h1 : 0 ≤ a) (h2 : a ≤ 4611686018427387904) (h3 : 0 < b) (h4 : b ≤ 4611686018427387904) (H : pw X d h m pc' ls (.long (Int64.ofInt (a % b)) :: r) Q) : pw X d h m pc ls (.long (Int64.ofInt b) :: .long (Int64.ofInt a) :: r) Q := by
  have n0 := pw_l0 (a := b) (by omega) (by omega) (by omega)
  have e : Int64.ofInt a - Int64.ofInt a / Int64.ofInt b * Int64.ofInt b = Int64.ofInt (a % b) := by
    apply Int64.toInt_inj.mp
    have hb := pw_remB (a := a) h3
    rw [pw_remE n0, pw_lToInt (by omega) (by omega), pw_lToInt (by omega) (by omega), pw_lToInt (by omega) (by omega), Int.tmod_eq_emod_of_nonneg h1]
  rw [← e] at H
  exact pw_ldivA he hq rfl hc n0 H
end Pg
end
section
/-! texts: the machine that reads tokens, and its runs -/
/-- how tight an operator binds -/
def pt_rk (x : Int) : Int := if x = 1 ∨ x = 2 then 1 else if x = 3 ∨ x = 4 then 2 else if x = 5 ∨ x = 6 then 3 else if x = 7 then 4 else 0
/-- what binds as tight as r, or tighter, goes out -/
def pt_rl (r : Int) : List Int → List Int → List Int × List Int
  | [], c => ([], c)
  | x :: S, c => if r ≤ pt_rk x then pt_rl r S (-x :: c) else (x :: S, c)
/-- a part is whole: so is each not before it -/
def pt_ep : List Int → Int → List Int → List Int × Int × List Int
  | [], d, c => ([], d, c)
  | x :: S, d, c => if x = 8 then pt_ep S (d - 1) (-8 :: c) else (x :: S, d, c)
def pt_tr : List Int → Int
  | [] => 0
  | x :: _ => pt_rk x
def pt_n8 : List Int → Prop
  | [] => True
  | x :: _ => x ≠ 8
/-- which operator a token is; -1: none -/
def pt_opn (K V : Int) : Int := if K = 1 then (if V = 1891 then 1 else if V = 573 then 2 else -1) else if K = 3 then (if V = 60 then 3 else if V = 61 then 4 else if V = 43 then 5 else if V = 45 then 6 else if V = 42 then 7 else -1) else -1
/-- how it stands: 0 a part is to come, 1 an operator; what waits; depth; open brackets; the code, the last first -/
abbrev pt_St := Int × List Int × Int × Int × List Int
def pt_fin (S : List Int) (d o : Int) (c : List Int) : pt_St := (1, (pt_ep S d c).1, (pt_ep S d c).2.1, o, (pt_ep S d c).2.2)
def pt_eo (F : Int → Int) (K V : Int) (S : List Int) (d o : Int) (c : List Int) : Int × pt_St :=
  if ¬ ((K = 1 ∧ (V = 19741 ∨ 0 ≤ F V)) ∨ (K = 3 ∧ V = 40) ∨ K = 2) then (1, (0, S, d, o, c))
  else if 5 ≤ d then (5, (0, S, d, o, c))
  else if K = 1 ∧ V = 19741 then (0, (0, 8 :: S, d + 1, o, c))
  else if K = 3 then (0, (0, 9 :: S, d + 1, o + 1, c))
  else (0, pt_fin S d o ((if K = 2 then V else 10000 + F V) :: c))
def pt_er (K V : Int) (S : List Int) (d o : Int) (c : List Int) : Int × pt_St :=
  if K = 3 ∧ V = 59 then (if 0 < o then (1, (1, S, d, o, c)) else (9, (1, (pt_rl 1 S c).1, d, o, (pt_rl 1 S c).2)))
  else if K = 3 ∧ V = 41 then (if o ≤ 0 then (1, (1, S, d, o, c)) else (0, pt_fin (pt_rl 1 S c).1.tail (d - 1) (o - 1) (pt_rl 1 S c).2))
  else if pt_opn K V = -1 then (1, (1, S, d, o, c))
  else if pt_rk (pt_opn K V) = 2 ∧ pt_tr (pt_rl 3 S c).1 = 2 then (1, (1, S, d, o, c))
  else (0, (0, pt_opn K V :: (pt_rl (pt_rk (pt_opn K V)) S c).1, d, o, (pt_rl (pt_rk (pt_opn K V)) S c).2))
def pt_es (F : Int → Int) (K V : Int) (s : pt_St) : Int × pt_St := if s.1 = 0 then pt_eo F K V s.2.1 s.2.2.1 s.2.2.2.1 s.2.2.2.2 else pt_er K V s.2.1 s.2.2.1 s.2.2.2.1 s.2.2.2.2
theorem pt_es0 {F : Int → Int} {K V d o : Int} {S c : List Int} : pt_es F K V (0, S, d, o, c) = pt_eo F K V S d o c := if_pos rfl
theorem pt_es1 {F : Int → Int} {K V d o : Int} {S c : List Int} : pt_es F K V (1, S, d, o, c) = pt_er K V S d o c := if_neg (show ¬ (1 : Int) = 0 by decide)
/-- so many steps -/
def pt_mr (F : Int → Int) (K V : Nat → Int) : Nat → Nat → pt_St → pt_St → Prop
  | 0, _, s, t => s = t
  | m + 1, i, s, t => (pt_es F (K i) (V i) s).1 = 0 ∧ pt_mr F K V m (i + 1) (pt_es F (K i) (V i) s).2 t
theorem pt_mr.tr {F : Int → Int} {K V : Nat → Int} {m' : Nat} {t u : pt_St} : ∀ {m i : Nat} {s : pt_St}, pt_mr F K V m i s t → pt_mr F K V m' (i + m) t u → pt_mr F K V (m + m') i s u := by
  intro m
  induction m with
  | zero =>
    intro i s h1 h2
    have e : s = t := h1
    rw [e, Nat.zero_add]
    exact h2
  | succ m ih =>
    intro i s h1 h2
    rw [show m + 1 + m' = (m + m') + 1 by omega]
    refine ⟨h1.1, ih h1.2 ?_⟩
    rw [show i + 1 + m = i + (m + 1) by omega]
    exact h2
/-- from token i to token j -/
def pt_MR (F : Int → Int) (K V : Nat → Int) (i j : Int) (s t : pt_St) : Prop := 0 ≤ i ∧ i ≤ j ∧ pt_mr F K V (j - i).toNat i.toNat s t
theorem pt_MR.rf {F : Int → Int} {K V : Nat → Int} {i : Int} {s : pt_St} (h : 0 ≤ i) : pt_MR F K V i i s s := ⟨h, Int.le_refl _, by rw [Int.sub_self]; exact rfl⟩
theorem pt_MR.tr {F : Int → Int} {K V : Nat → Int} {i j k : Int} {s t u : pt_St} (h1 : pt_MR F K V i j s t) (h2 : pt_MR F K V j k t u) : pt_MR F K V i k s u := by
  obtain ⟨a1, a2, a3⟩ := h1
  obtain ⟨b1, b2, b3⟩ := h2
  refine ⟨a1, by omega, ?_⟩
  rw [show (k - i).toNat = (j - i).toNat + (k - j).toNat by omega]
  exact a3.tr (by rw [show i.toNat + (j - i).toNat = j.toNat by omega]; exact b3)
theorem pt_MR.one {F : Int → Int} {K V : Nat → Int} {i : Int} {s t : pt_St} (h : 0 ≤ i) (e : pt_es F (K i.toNat) (V i.toNat) s = (0, t)) : pt_MR F K V i (i + 1) s t := by
  refine ⟨h, by omega, ?_⟩
  rw [show (i + 1 - i).toNat = 0 + 1 by omega]
  refine ⟨by rw [e], ?_⟩
  show (pt_es F (K i.toNat) (V i.toNat) s).2 = t
  rw [e]
/-- a token that is wrong is met -/
def pt_MF (F : Int → Int) (K V P : Nat → Int) (i : Int) (s : pt_St) (f : Int) : Prop := ∃ j t, pt_MR F K V i j s t ∧ j ≤ 1001 ∧ (pt_es F (K j.toNat) (V j.toNat) t).1 ≠ 0 ∧ (pt_es F (K j.toNat) (V j.toNat) t).1 ≠ 9 ∧ f = (pt_es F (K j.toNat) (V j.toNat) t).1 + 16 * P j.toNat
theorem pt_MF.tr {F : Int → Int} {K V P : Nat → Int} {i j f : Int} {s t : pt_St} (h1 : pt_MR F K V i j s t) (h2 : pt_MF F K V P j t f) : pt_MF F K V P i s f := by
  obtain ⟨k, u, a, b⟩ := h2
  exact ⟨k, u, h1.tr a, b⟩
theorem pt_MF.one {F : Int → Int} {K V P : Nat → Int} {i f x : Int} {s t : pt_St} (h : 0 ≤ i) (hb : i ≤ 1001) (e : pt_es F (K i.toNat) (V i.toNat) s = (x, t)) (h0 : x ≠ 0) (h9 : x ≠ 9) (hf : f = x + 16 * P i.toNat) : pt_MF F K V P i s f := ⟨i, s, pt_MR.rf h, hb, by rw [e]; exact h0, by rw [e]; exact h9, by rw [e]; exact hf⟩
/-- ranks -/
theorem pt_rkB (x : Int) : 0 ≤ pt_rk x ∧ pt_rk x ≤ 4 := by
  unfold pt_rk
  split
  · omega
  · split
    · omega
    · split
      · omega
      · split <;> omega
theorem pt_trB (S : List Int) : 0 ≤ pt_tr S ∧ pt_tr S ≤ 4 := by
  cases S with
  | nil => exact ⟨Int.le_refl _, by decide⟩
  | cons x S => exact pt_rkB x
theorem pt_rl_lt {r : Int} {S c : List Int} (h : pt_tr S < r) : pt_rl r S c = (S, c) := by
  cases S with
  | nil => rfl
  | cons x S => exact if_neg (by have : pt_rk x < r := h; omega)
theorem pt_rl_ge {r x : Int} {S c : List Int} (h : r ≤ pt_rk x) : pt_rl r (x :: S) c = pt_rl r S (-x :: c) := if_pos h
theorem pt_rl_rl {r r' : Int} (h : r ≤ r') : ∀ (S c : List Int), pt_rl r (pt_rl r' S c).1 (pt_rl r' S c).2 = pt_rl r S c := by
  intro S
  induction S with
  | nil => intro c; rfl
  | cons x S ih =>
    intro c
    by_cases q : r' ≤ pt_rk x
    · rw [pt_rl_ge q, ih, pt_rl_ge (by omega)]
    · have e : pt_rl r' (x :: S) c = (x :: S, c) := if_neg q
      rw [e]
theorem pt_rl_of {r r' : Int} {S c S' c' : List Int} (h : r ≤ r') (e : pt_rl r' S c = (S', c')) : pt_rl r S c = pt_rl r S' c' := by
  have z := pt_rl_rl h S c
  rw [e] at z
  exact z.symm
theorem pt_ep_no {S : List Int} {d : Int} {c : List Int} (h : pt_n8 S) : pt_ep S d c = (S, d, c) := by
  cases S with
  | nil => rfl
  | cons x S => exact if_neg h
theorem pt_fin_no {S : List Int} {d o : Int} {c : List Int} (h : pt_n8 S) : pt_fin S d o c = (1, S, d, o, c) := by
  unfold pt_fin
  rw [pt_ep_no h]
theorem pt_fin_8 {S : List Int} {d o : Int} {c : List Int} : pt_fin (8 :: S) (d + 1) o c = pt_fin S d o (-8 :: c) := by
  have e : pt_ep (8 :: S) (d + 1) c = pt_ep S (d + 1 - 1) (-8 :: c) := if_pos rfl
  unfold pt_fin
  rw [e, Int.add_sub_cancel]
theorem pt_opnB (K V : Int) : pt_opn K V = -1 ∨ 1 ≤ pt_rk (pt_opn K V) := by
  unfold pt_opn
  repeat' split
  all_goals first | exact Or.inl rfl | exact Or.inr (by decide)
/-- what an operator that comes now would do: none as tight as q but a second test -/
def pt_nx (q K V : Int) (S c : List Int) : Prop := ∀ y : Int, pt_opn K V = y → 1 ≤ pt_rk y → q ≤ pt_rk y → pt_rk y = 2 ∧ pt_tr (pt_rl 3 S c).1 = 2
/-- read so far: a part of rank r over S, its code c' once all that binds so tight is out -/
def pt_GG (r q : Int) (F : Int → Int) (K V : Nat → Int) (i j : Int) (S : List Int) (d o : Int) (c c' : List Int) : Prop := ∃ S1 c1, pt_MR F K V i j (0, S, d, o, c) (1, S1, d, o, c1) ∧ pt_rl r S1 c1 = (S, c') ∧ pt_nx q (K j.toNat) (V j.toNat) S1 c1
theorem pt_GG.pt {F : Int → Int} {K V : Nat → Int} {i j d o : Int} {S c c' : List Int} (h : pt_MR F K V i j (0, S, d, o, c) (pt_fin S d o c')) (hn : pt_n8 S) : pt_GG 5 5 F K V i j S d o c c' := by
  rw [pt_fin_no hn] at h
  exact ⟨S, c', h, pt_rl_lt (by have := pt_trB S; omega), fun y _ _ hy => by have := pt_rkB y; omega⟩
theorem pt_GG.dn {r r' q d o : Int} {F : Int → Int} {K V : Nat → Int} {i j : Int} {S c c' : List Int} (H : pt_GG r q F K V i j S d o c c') (h : r' ≤ r) (hS : pt_tr S < r') : pt_GG r' q F K V i j S d o c c' := by
  obtain ⟨S1, c1, a, b, n⟩ := H
  exact ⟨S1, c1, a, (pt_rl_of h b).trans (pt_rl_lt hS), n⟩
/-- an operator comes, after which another part is read -/
theorem pt_GG.op {r q d o y : Int} {F : Int → Int} {K V : Nat → Int} {i j : Int} {S c c' : List Int} (H : pt_GG r q F K V i j S d o c c') (hy : pt_opn (K j.toNat) (V j.toNat) = y) (h1 : 1 ≤ pt_rk y) (h2 : pt_rk y ≤ r) (hS : pt_tr S < pt_rk y) (h3 : pt_rk y = 2 → r = 3) : pt_MR F K V i (j + 1) (0, S, d, o, c) (0, y :: S, d, o, c') := by
  obtain ⟨S1, c1, a, b, n⟩ := H
  refine a.tr (pt_MR.one (by have := a.1; have := a.2.1; omega) ?_)
  have e1 : pt_rl (pt_rk y) S1 c1 = (S, c') := (pt_rl_of h2 b).trans (pt_rl_lt hS)
  have hne : y ≠ -1 := fun z => by rw [z] at h1; exact absurd h1 (by decide)
  have hk : ¬ (K j.toNat = 3 ∧ V j.toNat = 59) := fun z => by
    rw [z.1, z.2] at hy; exact hne hy.symm
  have hk2 : ¬ (K j.toNat = 3 ∧ V j.toNat = 41) := fun z => by
    rw [z.1, z.2] at hy; exact hne hy.symm
  rw [pt_es1]
  unfold pt_er
  rw [if_neg hk, if_neg hk2, hy, if_neg hne, if_neg ?_, e1]
  intro z
  have r3 := h3 z.1
  rw [r3] at b
  rw [b] at z
  have z2 : pt_tr S = 2 := z.2
  omega
theorem pt_GG.cl {r q d o y : Int} {F : Int → Int} {K V : Nat → Int} {i j k : Int} {S c c' c'' : List Int} (h : pt_MR F K V i j (0, S, d, o, c) (0, y :: S, d, o, c')) (H : pt_GG r q F K V j k (y :: S) d o c' c'') (h1 : pt_rk y ≤ r) (hS : pt_tr S < pt_rk y) : pt_GG (pt_rk y) q F K V i k S d o c (-y :: c'') := by
  obtain ⟨S1, c1, a, b, n⟩ := H
  refine ⟨S1, c1, h.tr a, ?_, n⟩
  rw [pt_rl_of h1 b, pt_rl_ge (Int.le_refl _), pt_rl_lt hS]
theorem pt_GG.nx {r q d o : Int} {F : Int → Int} {K V : Nat → Int} {i j : Int} {S c c' : List Int} (H : pt_GG r q F K V i j S d o c c') (h : pt_rk (pt_opn (K j.toNat) (V j.toNat)) ≠ r) (hq : q = r + 1) : pt_GG r r F K V i j S d o c c' := by
  obtain ⟨S1, c1, a, b, n⟩ := H
  exact ⟨S1, c1, a, b, fun y hy h1 h2 => n y hy h1 (by rw [hy] at h; omega)⟩
/-- a second test can't stand -/
theorem pt_GG.t2 {d o y : Int} {F : Int → Int} {K V : Nat → Int} {i j k : Int} {S c c' c'' : List Int} (h : pt_MR F K V i j (0, S, d, o, c) (0, y :: S, d, o, c')) (H : pt_GG 3 3 F K V j k (y :: S) d o c' c'') (h1 : pt_rk y = 2) (hS : pt_tr S < 2) : pt_GG 2 2 F K V i k S d o c (-y :: c'') := by
  obtain ⟨S1, c1, a, b, n⟩ := H
  refine ⟨S1, c1, h.tr a, ?_, fun z hz z1 z2 => ?_⟩
  · rw [pt_rl_of (by decide : (2 : Int) ≤ 3) b, pt_rl_ge (by omega), pt_rl_lt hS]
  · rcases (by omega : pt_rk z = 2 ∨ 3 ≤ pt_rk z) with q | q
    · refine ⟨q, ?_⟩
      rw [b]
      exact h1
    · exact n z hz z1 q
/-- the bracket closes, or a token stands there that is wrong -/
theorem pt_GG.close {d o : Int} {F : Int → Int} {K V : Nat → Int} {i j : Int} {S c c' : List Int} (H : pt_GG 1 1 F K V i j (9 :: S) (d + 1) (o + 1) c c') (ho : 0 ≤ o) (hk : K j.toNat = 3) (hv : V j.toNat = 41) : pt_MR F K V i (j + 1) (0, 9 :: S, d + 1, o + 1, c) (pt_fin S d o c') := by
  obtain ⟨S1, c1, a, b, n⟩ := H
  refine a.tr (pt_MR.one (by have := a.1; have := a.2.1; omega) ?_)
  rw [pt_es1, hk, hv]
  unfold pt_er
  rw [if_neg (by decide), if_pos ⟨rfl, rfl⟩, if_neg (by omega), b, Int.add_sub_cancel, Int.add_sub_cancel]
  rfl
theorem pt_GG.noclose {d o f : Int} {F : Int → Int} {K V P : Nat → Int} {i j : Int} {S c c' : List Int} (H : pt_GG 1 1 F K V i j S d o c c') (ho : 0 < o) (hj : j ≤ 1001) (hk : ¬ (K j.toNat = 3 ∧ V j.toNat = 41)) (hf : f = 1 + 16 * P j.toNat) : pt_MF F K V P i (0, S, d, o, c) f := by
  obtain ⟨S1, c1, a, b, n⟩ := H
  refine pt_MF.tr a (pt_MF.one (x := 1) (t := (1, S1, d, o, c1)) (by have := a.1; have := a.2.1; omega) hj ?_ (by decide) (by decide) hf)
  rw [pt_es1]
  unfold pt_er
  by_cases q : K j.toNat = 3 ∧ V j.toNat = 59
  · rw [if_pos q, if_pos ho]
  · rw [if_neg q, if_neg hk]
    by_cases z : pt_opn (K j.toNat) (V j.toNat) = -1
    · rw [if_pos z]
    · have b1 := (pt_opnB (K j.toNat) (V j.toNat)).resolve_left z
      rw [if_neg z, if_pos (n _ rfl b1 b1)]
theorem pt_GG.noend {d f : Int} {F : Int → Int} {K V P : Nat → Int} {i j : Int} {S c c' : List Int} (H : pt_GG 1 1 F K V i j S d 0 c c') (hj : j ≤ 1001) (hk : ¬ (K j.toNat = 3 ∧ V j.toNat = 59)) (hf : f = 1 + 16 * P j.toNat) : pt_MF F K V P i (0, S, d, 0, c) f := by
  obtain ⟨S1, c1, a, b, n⟩ := H
  refine pt_MF.tr a (pt_MF.one (x := 1) (t := (1, S1, d, 0, c1)) (by have := a.1; have := a.2.1; omega) hj ?_ (by decide) (by decide) hf)
  rw [pt_es1]
  unfold pt_er
  rw [if_neg hk]
  by_cases q : K j.toNat = 3 ∧ V j.toNat = 41
  · rw [if_pos q, if_pos (Int.le_refl _)]
  · rw [if_neg q]
    by_cases z : pt_opn (K j.toNat) (V j.toNat) = -1
    · rw [if_pos z]
    · have b1 := (pt_opnB (K j.toNat) (V j.toNat)).resolve_left z
      rw [if_neg z, if_pos (n _ rfl b1 b1)]
/-- the line ends -/
theorem pt_GG.end {d : Int} {F : Int → Int} {K V : Nat → Int} {i j : Int} {c c' : List Int} (H : pt_GG 1 1 F K V i j [] d 0 c c') (hk : K j.toNat = 3) (hv : V j.toNat = 59) : ∃ t, pt_MR F K V i j (0, [], d, 0, c) t ∧ pt_es F (K j.toNat) (V j.toNat) t = (9, (1, [], d, 0, c')) := by
  obtain ⟨S1, c1, a, b, n⟩ := H
  refine ⟨_, a, ?_⟩
  rw [pt_es1, hk, hv]
  unfold pt_er
  rw [if_pos ⟨rfl, rfl⟩, if_neg (by decide), b]
end
section
/-! texts: the tokens and the code as the model has them -/
/-- the model's words, and the facts of a writer among them -/
def pt_wc (w : Nat) : Int := [418216, 812503, 974156, 28930245, 1176170, 1891, 573, 19741, 43531911, 407043, 1166652, 11873910, 9636, 103204, 25143802, 38396496, 227314, 31543, 1014841, 329128, 755, 1396986782, 679747, 223811164, 1335017851, 4537388, 15063274, 1010834209].getD w 0
def pt_wf (k : Nat) : Int := [13, 10, 22, 23, 24, 2, 25, 26, 27].getD k 0
/-- the last of the first n that is V; -1: none -/
def pt_fd (g : Nat → Int) (V : Int) : Nat → Int
  | 0 => -1
  | k + 1 => if V = g k then k else pt_fd g V k
def pt_FF (wr : Int) (V : Int) : Int := if wr = 0 then pt_fd (fun k => pt_wc (8 + k)) V 10 else pt_fd (fun k => pt_wc (pt_wf k).toNat) V 9
theorem pt_fdS {g : Nat → Int} {V k : Int} (hk : 0 ≤ k) : (V = g k.toNat → pt_fd g V (k + 1).toNat = k) ∧ (V ≠ g k.toNat → pt_fd g V (k + 1).toNat = pt_fd g V k.toNat) := by
  rw [show (k + 1).toNat = k.toNat + 1 by omega]
  have e : pt_fd g V (k.toNat + 1) = if V = g k.toNat then (k.toNat : Int) else pt_fd g V k.toNat := rfl
  rw [e]
  exact ⟨fun q => by rw [if_pos q]; omega, fun q => if_neg q⟩
theorem pt_fdB {g : Nat → Int} {V : Int} : ∀ n : Nat, -1 ≤ pt_fd g V n ∧ pt_fd g V n < n := by
  intro n
  induction n with
  | zero => exact ⟨Int.le_refl _, by show (-1 : Int) < 0; decide⟩
  | succ n ih =>
    have e : pt_fd g V (n + 1) = if V = g n then (n : Int) else pt_fd g V n := rfl
    rw [e]
    split <;> omega
theorem pt_FFB {wr V : Int} : -1 ≤ pt_FF wr V ∧ pt_FF wr V ≤ 9 := by
  unfold pt_FF
  split
  · have := pt_fdB (g := fun k => pt_wc (8 + k)) (V := V) 10; omega
  · have := pt_fdB (g := fun k => pt_wc (pt_wf k).toNat) (V := V) 9; omega
def pt_TK (K V P : Nat → Int) (wr : Int) (g : pm_H) : Prop := pw_g g 127 = K ∧ pw_gm g 129 = V ∧ pw_g g 128 = P ∧ (∀ w : Nat, w < 28 → pw_gm g 130 w = pt_wc w) ∧ (∀ k : Nat, k < 9 → pw_g g 148 k = pt_wf k) ∧ pw_g g 125 45 = wr
theorem pt_TK.E {K V P : Nat → Int} {wr : Int} {W : List Nat} {g g' : pm_H} (I : pw_I g) (E : pw_E W g g') (T : pt_TK K V P wr g) (hn : ((W.contains 127 || W.contains 129) || (W.contains 128 || (W.contains 130 || W.contains 148))) = false) (h45 : pw_g g' 125 45 = pw_g g 125 45) : pt_TK K V P wr g' := by
  obtain ⟨h1, h2⟩ := Bool.or_eq_false_iff.mp hn
  obtain ⟨h1, h3⟩ := Bool.or_eq_false_iff.mp h1
  obtain ⟨h2, h4⟩ := Bool.or_eq_false_iff.mp h2
  obtain ⟨h4, h5⟩ := Bool.or_eq_false_iff.mp h4
  obtain ⟨t1, t2, t3, t4, t5, t6⟩ := T
  refine ⟨?_, ?_, ?_, fun w hw => ?_, fun k hk => ?_, by rw [h45, t6]⟩
  · rw [← t1]; exact funext (fun j => pw_Eg (c := 127) I E rfl h1 j)
  · rw [← t2]; exact funext (fun j => pw_Egm (c := 129) I E rfl h3 j)
  · rw [← t3]; exact funext (fun j => pw_Eg (c := 128) I E rfl h2 j)
  · rw [← t4 w hw]; exact pw_Egm (c := 130) I E rfl h4 w
  · rw [← t5 k hk]; exact pw_Eg (c := 148) I E rfl h5 k
theorem pt_glO {g : pm_H} {c k : Nat} {a : Int} (h1 : -4611686018427387904 ≤ a) (h2 : a ≤ 4611686018427387904) : pw_gl g c k = Int64.ofInt a ↔ pw_gm g c k = a := by
  have e : pw_gm g c k = (pw_gl g c k).toInt := rfl
  rw [e]
  exact ⟨fun q => by rw [q, pw_lToInt h1 h2], fun q => Int64.toInt_inj.mp (by rw [q, pw_lToInt h1 h2])⟩
theorem pt_glE {g : pm_H} {c k c' k' : Nat} : pw_gl g c k = pw_gl g c' k' ↔ pw_gm g c k = pw_gm g c' k' := by
  have e : pw_gm g c k = (pw_gl g c k).toInt := rfl
  have e' : pw_gm g c' k' = (pw_gl g c' k').toInt := rfl
  rw [e, e']
  exact ⟨fun q => congrArg Int64.toInt q, fun q => Int64.toInt_inj.mp q⟩
theorem pt_sgI {K V P : Nat → Int} {wr ch : Int} {g : pm_H} (T : pt_TK K V P wr g) (h0 : 0 ≤ ch) (h1 : ch ≤ 255) : (pw_sg g ch = 1 ∧ pw_g g 125 8 = 0 ∧ K (pw_g g 125 7).toNat = 3 ∧ V (pw_g g 125 7).toNat = ch) ∨ (pw_sg g ch = 0 ∧ ¬ (pw_g g 125 8 = 0 ∧ K (pw_g g 125 7).toNat = 3 ∧ V (pw_g g 125 7).toNat = ch)) := by
  have e := pt_glO (g := g) (c := 129) (k := (pw_g g 125 7).toNat) (a := ch) (by omega) (by omega)
  rw [T.2.1] at e
  unfold pw_sg
  rw [T.1]
  by_cases q : pw_g g 125 8 = 0 ∧ K (pw_g g 125 7).toNat = 3 ∧ V (pw_g g 125 7).toNat = ch
  · exact Or.inl ⟨if_pos ⟨q.1, q.2.1, e.mpr q.2.2⟩, q⟩
  · exact Or.inr ⟨if_neg (fun z => q ⟨z.1, z.2.1, e.mp z.2.2⟩), q⟩
theorem pt_wdI {K V P : Nat → Int} {wr w : Int} {g : pm_H} (T : pt_TK K V P wr g) (h0 : 0 ≤ w) (h1 : w ≤ 27) : (pw_wd g w = 1 ∧ pw_g g 125 8 = 0 ∧ K (pw_g g 125 7).toNat = 1 ∧ V (pw_g g 125 7).toNat = pt_wc w.toNat) ∨ (pw_wd g w = 0 ∧ ¬ (pw_g g 125 8 = 0 ∧ K (pw_g g 125 7).toNat = 1 ∧ V (pw_g g 125 7).toNat = pt_wc w.toNat)) := by
  have e := pt_glE (g := g) (c := 129) (k := (pw_g g 125 7).toNat) (c' := 130) (k' := w.toNat)
  rw [T.2.1, T.2.2.2.1 w.toNat (by omega)] at e
  unfold pw_wd
  rw [T.1]
  by_cases q : pw_g g 125 8 = 0 ∧ K (pw_g g 125 7).toNat = 1 ∧ V (pw_g g 125 7).toNat = pt_wc w.toNat
  · exact Or.inl ⟨if_pos ⟨q.1, q.2.1, e.mpr q.2.2⟩, q⟩
  · exact Or.inr ⟨if_neg (fun z => q ⟨z.1, z.2.1, e.mp z.2.2⟩), q⟩
/-- a code of the model, and a word of the machine -/
def pt_en (o a x : Int) : Prop := (o = 1 ∧ a = x ∧ 0 ≤ x ∧ x ≤ 9999) ∨ (o = 2 ∧ x = 10000 + a ∧ 0 ≤ a ∧ a ≤ 9) ∨ (o = 3 ∧ x = -8) ∨ (o = 4 ∧ x = -5) ∨ (o = 5 ∧ x = -6) ∨ (o = 6 ∧ x = -7) ∨ (o = 7 ∧ x = -3) ∨ (o = 8 ∧ x = -4) ∨ (o = 9 ∧ x = -1) ∨ (o = 10 ∧ x = -2)
def pt_cl (g : pm_H) (B : Nat) : List Int → Prop
  | [] => True
  | x :: r => pt_en (pw_g g 146 (B + r.length)) (pw_g g 147 (B + r.length)) x ∧ pt_cl g B r
theorem pt_cl.cg {g g' : pm_H} {B B' : Nat} : ∀ {c : List Int}, (∀ j : Nat, j < c.length → pw_g g' 146 (B' + j) = pw_g g 146 (B + j) ∧ pw_g g' 147 (B' + j) = pw_g g 147 (B + j)) → pt_cl g B c → pt_cl g' B' c := by
  intro c
  induction c with
  | nil => intro _ _; exact trivial
  | cons x r ih =>
    intro H C
    have hl : r.length < (x :: r).length := by rw [List.length_cons]; exact Nat.lt_succ_self _
    refine ⟨?_, ih (fun j hj => H j (Nat.lt_trans hj hl)) C.2⟩
    rw [(H r.length hl).1, (H r.length hl).2]
    exact C.1
def pt_CD (g : pm_H) (b : Int) (c : List Int) : Prop := 0 ≤ b ∧ pw_g g 125 32 = b + c.length ∧ pt_cl g (4400 + b).toNat c
/-- one code more -/
def pt_EM (h h' : pm_H) (op a : Int) : Prop := pw_g h' 125 7 = pw_g h 125 7 ∧ pw_g h' 125 8 = pw_g h 125 8 ∧ pw_g h' 125 32 = pw_g h 125 32 + 1 ∧ pw_g h' 146 (4400 + pw_g h 125 32).toNat = op ∧ pw_g h' 147 (4400 + pw_g h 125 32).toNat = a ∧ ∀ j : Nat, j ≠ (4400 + pw_g h 125 32).toNat → pw_g h' 146 j = pw_g h 146 j ∧ pw_g h' 147 j = pw_g h 147 j
theorem pt_CD.em {h h' : pm_H} {b op a x : Int} {c : List Int} (H : pt_CD h b c) (m : pt_EM h h' op a) (e : pt_en op a x) : pt_CD h' b (x :: c) := by
  obtain ⟨h1, h2, h3⟩ := H
  obtain ⟨-, -, m3, m4, m5, m6⟩ := m
  have el : (x :: c).length = c.length + 1 := rfl
  refine ⟨h1, by rw [el]; omega, ?_, h3.cg (fun j hj => m6 _ (by omega))⟩
  rw [show (4400 + b).toNat + c.length = (4400 + pw_g h 125 32).toNat by omega, m4, m5]
  exact e
theorem pt_CD.eq {h h' : pm_H} {b : Int} {c : List Int} (H : pt_CD h b c) (e32 : pw_g h' 125 32 = pw_g h 125 32) (e6 : ∀ j : Nat, pw_g h' 146 j = pw_g h 146 j) (e7 : ∀ j : Nat, pw_g h' 147 j = pw_g h 147 j) : pt_CD h' b c := ⟨H.1, by rw [e32]; exact H.2.1, H.2.2.cg (fun j _ => ⟨e6 _, e7 _⟩)⟩
theorem pt_CD.E {W : List Nat} {h h' : pm_H} {b : Int} {c : List Int} (I : pw_I h) (E : pw_E W h h') (H : pt_CD h b c) (hn : (W.contains 146 || W.contains 147) = false) (e32 : pw_g h' 125 32 = pw_g h 125 32) : pt_CD h' b c := by
  obtain ⟨h1, h2⟩ := Bool.or_eq_false_iff.mp hn
  exact H.eq e32 (pw_Eg (c := 146) I E rfl h1) (pw_Eg (c := 147) I E rfl h2)
/-- a part is read, or a fault is there; what is left open of rank r -/
def pt_PT (F : Int → Int) (K V P : Nat → Int) (S : List Int) (d o b : Int) (c : List Int) (h h' : pm_H) : Prop := (pw_g h' 125 8 ≠ 0 ∧ pt_MF F K V P (pw_g h 125 7) (0, S, d, o, c) (pw_g h' 125 8)) ∨ (pw_g h' 125 8 = 0 ∧ ∃ c', pt_CD h' b c' ∧ pt_MR F K V (pw_g h 125 7) (pw_g h' 125 7) (0, S, d, o, c) (pt_fin S d o c'))
def pt_PI (r q : Int) (F : Int → Int) (K V P : Nat → Int) (S : List Int) (d o b : Int) (c : List Int) (h h' : pm_H) : Prop := (pw_g h' 125 8 ≠ 0 ∧ pt_MF F K V P (pw_g h 125 7) (0, S, d, o, c) (pw_g h' 125 8)) ∨ (pw_g h' 125 8 = 0 ∧ ∃ c', pt_CD h' b c' ∧ pt_GG r q F K V (pw_g h 125 7) (pw_g h' 125 7) S d o c c')
theorem pt_PT.p5 {F : Int → Int} {K V P : Nat → Int} {S : List Int} {d o b : Int} {c : List Int} {h h' : pm_H} (H : pt_PT F K V P S d o b c h h') (hn : pt_n8 S) : pt_PI 5 5 F K V P S d o b c h h' := by
  rcases H with H | ⟨z, c', a, m⟩
  · exact Or.inl H
  · exact Or.inr ⟨z, c', a, pt_GG.pt m hn⟩
theorem pt_PI.dn {r r' q : Int} {F : Int → Int} {K V P : Nat → Int} {S : List Int} {d o b : Int} {c : List Int} {h h' : pm_H} (H : pt_PI r q F K V P S d o b c h h') (hr : r' ≤ r) (hS : pt_tr S < r') : pt_PI r' q F K V P S d o b c h h' := by
  rcases H with H | ⟨z, c', a, m⟩
  · exact Or.inl H
  · exact Or.inr ⟨z, c', a, m.dn hr hS⟩
theorem pt_PI.nx {r q : Int} {F : Int → Int} {K V P : Nat → Int} {S : List Int} {d o b : Int} {c : List Int} {h h' : pm_H} (H : pt_PI r q F K V P S d o b c h h') (hq : q = r + 1) (hn : pw_g h' 125 8 = 0 → pt_rk (pt_opn (K (pw_g h' 125 7).toNat) (V (pw_g h' 125 7).toNat)) ≠ r) : pt_PI r r F K V P S d o b c h h' := by
  rcases H with H | ⟨z, c', a, m⟩
  · exact Or.inl H
  · exact Or.inr ⟨z, c', a, m.nx (hn z) hq⟩
theorem pt_PI.op {r q y : Int} {F : Int → Int} {K V P : Nat → Int} {S : List Int} {d o b : Int} {c : List Int} {h g : pm_H} (H : pt_PI r q F K V P S d o b c h g) (hz : pw_g g 125 8 = 0) (hy : pt_opn (K (pw_g g 125 7).toNat) (V (pw_g g 125 7).toNat) = y) (h1 : 1 ≤ pt_rk y) (h2 : pt_rk y ≤ r) (hS : pt_tr S < pt_rk y) (h3 : pt_rk y = 2 → r = 3) : ∃ c2, pt_CD g b c2 ∧ pt_MR F K V (pw_g h 125 7) (pw_g g 125 7 + 1) (0, S, d, o, c) (0, y :: S, d, o, c2) := by
  obtain ⟨-, c', a, m⟩ := H.resolve_left (fun q => q.1 hz)
  exact ⟨c', a, m.op hy h1 h2 hS h3⟩
theorem pt_PI.cl {r q y op a : Int} {F : Int → Int} {K V P : Nat → Int} {S : List Int} {d o b : Int} {c c2 : List Int} {h g g1 g2 : pm_H} (hM : pt_MR F K V (pw_g h 125 7) (pw_g g 125 7) (0, S, d, o, c) (0, y :: S, d, o, c2)) (H : pt_PI r q F K V P (y :: S) d o b c2 g g1) (m : pt_EM g1 g2 op a) (e : pt_en op a (-y)) (h1 : pt_rk y ≤ r) (hS : pt_tr S < pt_rk y) : pt_PI (pt_rk y) q F K V P S d o b c h g2 := by
  have e7 := m.1
  have e8 := m.2.1
  rcases H with ⟨z, f⟩ | ⟨z, c', a, n⟩
  · exact Or.inl ⟨by omega, by rw [e8]; exact pt_MF.tr hM f⟩
  · exact Or.inr ⟨by omega, _, a.em m e, by rw [e7]; exact pt_GG.cl hM n h1 hS⟩
theorem pt_PI.t2 {y op a : Int} {F : Int → Int} {K V P : Nat → Int} {S : List Int} {d o b : Int} {c c2 : List Int} {h g g1 g2 : pm_H} (hM : pt_MR F K V (pw_g h 125 7) (pw_g g 125 7) (0, S, d, o, c) (0, y :: S, d, o, c2)) (H : pt_PI 3 3 F K V P (y :: S) d o b c2 g g1) (m : pt_EM g1 g2 op a) (e : pt_en op a (-y)) (h1 : pt_rk y = 2) (hS : pt_tr S < 2) : pt_PI 2 2 F K V P S d o b c h g2 := by
  have e7 := m.1
  have e8 := m.2.1
  rcases H with ⟨z, f⟩ | ⟨z, c', a, n⟩
  · exact Or.inl ⟨by omega, by rw [e8]; exact pt_MF.tr hM f⟩
  · exact Or.inr ⟨by omega, _, a.em m e, by rw [e7]; exact pt_GG.t2 hM n h1 hS⟩
/-- what stands where a part should: none -/
theorem pt_eoW {F : Int → Int} {K V d o : Int} {S c : List Int} (h1 : K ≠ 2) (h2 : ¬ (K = 3 ∧ V = 40)) (h3 : ¬ (K = 1 ∧ V = 19741)) (h4 : K = 1 → F V = -1) : pt_es F K V (0, S, d, o, c) = (1, (0, S, d, o, c)) := by
  rw [pt_es0]
  unfold pt_eo
  rw [if_pos]
  intro z
  rcases z with ⟨z1, z2 | z2⟩ | z | z
  · exact h3 ⟨z1, z2⟩
  · have := h4 z1; omega
  · exact h2 z
  · exact h1 z
theorem pt_eoD {F : Int → Int} {K V d o : Int} {S c : List Int} (h : (K = 1 ∧ (V = 19741 ∨ 0 ≤ F V)) ∨ (K = 3 ∧ V = 40) ∨ K = 2) (hd : 5 ≤ d) : pt_es F K V (0, S, d, o, c) = (5, (0, S, d, o, c)) := by
  rw [pt_es0]
  unfold pt_eo
  rw [if_neg (fun z => z h), if_pos hd]
theorem pt_eoN {F : Int → Int} {K V d o : Int} {S c : List Int} (h1 : K = 1) (h2 : V = 19741) (hd : ¬ 5 ≤ d) : pt_es F K V (0, S, d, o, c) = (0, (0, 8 :: S, d + 1, o, c)) := by
  rw [pt_es0]
  unfold pt_eo
  rw [if_neg (fun z => z (Or.inl ⟨h1, Or.inl h2⟩)), if_neg hd, if_pos ⟨h1, h2⟩]
theorem pt_eoB {F : Int → Int} {K V d o : Int} {S c : List Int} (h1 : K = 3) (h2 : V = 40) (hd : ¬ 5 ≤ d) : pt_es F K V (0, S, d, o, c) = (0, (0, 9 :: S, d + 1, o + 1, c)) := by
  rw [pt_es0]
  unfold pt_eo
  rw [if_neg (fun z => z (Or.inr (Or.inl ⟨h1, h2⟩))), if_neg hd, if_neg (fun z => by have := z.1; omega), if_pos h1]
theorem pt_eoV {F : Int → Int} {K V d o : Int} {S c : List Int} (h1 : K = 2) (hd : ¬ 5 ≤ d) : pt_es F K V (0, S, d, o, c) = (0, pt_fin S d o (V :: c)) := by
  rw [pt_es0]
  unfold pt_eo
  rw [if_neg (fun z => z (Or.inr (Or.inr h1))), if_neg hd, if_neg (fun z => by have := z.1; omega), if_neg (by omega), if_pos h1]
theorem pt_eoF {F : Int → Int} {K V d o : Int} {S c : List Int} (h1 : K = 1) (h2 : V ≠ 19741) (h3 : 0 ≤ F V) (hd : ¬ 5 ≤ d) : pt_es F K V (0, S, d, o, c) = (0, pt_fin S d o ((10000 + F V) :: c)) := by
  rw [pt_es0]
  unfold pt_eo
  rw [if_neg (fun z => z (Or.inl ⟨h1, Or.inr h3⟩)), if_neg hd, if_neg (fun z => h2 z.2), if_neg (by omega), if_neg (by omega)]
/-- two things that are known of one run -/
theorem pw_and {X : List (Nat × List Value)} {d : Nat} {h : pm_H} {m pc : Nat} {ls : pm_L} {st : List Value} {Q R : pm_H → (Option Value ⊕ Unit) → Prop} (h1 : pw X d h m pc ls st Q) (h2 : pw X d h m pc ls st R) : pw X d h m pc ls st (fun g v => Q g v ∧ R g v) := by
  obtain ⟨n1, o1, q1, r1⟩ := h1
  obtain ⟨n2, o2, q2, r2⟩ := h2
  have a := r1 (max n1 n2) (Nat.le_max_left _ _)
  have b := r2 (max n1 n2) (Nat.le_max_right _ _)
  rw [a] at b
  have e : o1 = o2 := Option.some.inj b
  rw [← e] at q2
  exact ⟨n1, o1, ⟨q1, q2⟩, r1⟩
theorem pt_PI.E {r q : Int} {F : Int → Int} {K V P : Nat → Int} {S : List Int} {d o b : Int} {c : List Int} {W : List Nat} {h g g' : pm_H} (I : pw_I g) (E : pw_E W g g') (H : pt_PI r q F K V P S d o b c h g) (hn : (W.contains 146 || W.contains 147) = false) (e7 : pw_g g' 125 7 = pw_g g 125 7) (e8 : pw_g g' 125 8 = pw_g g 125 8) (e32 : pw_g g' 125 32 = pw_g g 125 32) : pt_PI r q F K V P S d o b c h g' := by
  rcases H with ⟨z, f⟩ | ⟨z, c', a, n⟩
  · exact Or.inl ⟨by omega, by rw [e8]; exact f⟩
  · exact Or.inr ⟨by omega, c', a.E I E hn e32, by rw [e7]; exact n⟩
theorem pt_rk1 : pt_rk 1 = 1 := by decide
theorem pt_rk2 : pt_rk 2 = 1 := by decide
theorem pt_rk3 : pt_rk 3 = 2 := by decide
theorem pt_rk4 : pt_rk 4 = 2 := by decide
theorem pt_rk5 : pt_rk 5 = 3 := by decide
theorem pt_rk6 : pt_rk 6 = 3 := by decide
theorem pt_rk7 : pt_rk 7 = 4 := by decide
theorem pt_rk9 : pt_rk 9 = 0 := by decide
theorem pt_tr1 {x : Int} {S : List Int} : pt_tr (x :: S) = pt_rk x := rfl
theorem pt_n81 {x : Int} {S : List Int} (h : x ≠ 8) : pt_n8 (x :: S) := h
/-- which operators have a rank -/
theorem pt_op4 {K V : Int} (h : ¬ (K = 3 ∧ V = 42)) : pt_rk (pt_opn K V) ≠ 4 := by
  unfold pt_opn
  repeat' split
  all_goals first | decide | (intro _; exact h ⟨by assumption, by assumption⟩)
theorem pt_op3 {K V : Int} (h1 : ¬ (K = 3 ∧ V = 43)) (h2 : ¬ (K = 3 ∧ V = 45)) : pt_rk (pt_opn K V) ≠ 3 := by
  unfold pt_opn
  repeat' split
  all_goals first | decide | (intro _; exact h1 ⟨by assumption, by assumption⟩) | (intro _; exact h2 ⟨by assumption, by assumption⟩)
theorem pt_op2 {K V : Int} (h1 : ¬ (K = 3 ∧ V = 60)) (h2 : ¬ (K = 3 ∧ V = 61)) : pt_rk (pt_opn K V) ≠ 2 := by
  unfold pt_opn
  repeat' split
  all_goals first | decide | (intro _; exact h1 ⟨by assumption, by assumption⟩) | (intro _; exact h2 ⟨by assumption, by assumption⟩)
theorem pt_op1 {K V : Int} (h1 : ¬ (K = 1 ∧ V = 1891)) (h2 : ¬ (K = 1 ∧ V = 573)) : pt_rk (pt_opn K V) ≠ 1 := by
  unfold pt_opn
  repeat' split
  all_goals first | decide | (intro _; exact h1 ⟨by assumption, by assumption⟩) | (intro _; exact h2 ⟨by assumption, by assumption⟩)
/-- a fact among the words read so far -/
def pt_fI (f k1 : Int) (g : Nat → Int) (V k x : Int) : Prop := (f = 0 ∧ k1 = 1 → x = pt_fd g V k.toNat) ∧ (¬ (f = 0 ∧ k1 = 1) → x = -1)
theorem pt_fI.z {f k1 V : Int} {g : Nat → Int} : pt_fI f k1 g V 0 (-1) := ⟨fun _ => rfl, fun _ => rfl⟩
theorem pt_fI.st {f k1 V k x w : Int} {g : Nat → Int} (H : pt_fI f k1 g V k x) (hk : 0 ≤ k) (hw : (w = 1 ∧ f = 0 ∧ k1 = 1 ∧ V = g k.toNat) ∨ (w = 0 ∧ ¬ (f = 0 ∧ k1 = 1 ∧ V = g k.toNat))) : (w = 1 → pt_fI f k1 g V (k + 1) k) ∧ (w = 0 → pt_fI f k1 g V (k + 1) x) := by
  obtain ⟨s1, s2⟩ := pt_fdS (g := g) (V := V) hk
  refine ⟨fun q => ?_, fun q => ?_⟩
  · obtain ⟨-, a, b, c⟩ := hw.resolve_right (fun z => by have := z.1; omega)
    exact ⟨fun _ => (s1 c).symm, fun z => absurd ⟨a, b⟩ z⟩
  · obtain ⟨-, n⟩ := hw.resolve_left (fun z => by have := z.1; omega)
    exact ⟨fun z => by rw [s2 (fun y => n ⟨z.1, z.2, y⟩)]; exact H.1 z, H.2⟩
end
section
/-! the small methods of the model's parser, exactly -/
set_option maxHeartbeats 4000000 in
theorem cm_253_t {X : List (Nat × List Value)} {d : Nat} {h : pm_H} (hd : 2 ≤ d) (I : pw_I h) (K V P : Nat → Int) (wr : Int) (hp0 : pt_TK K V P wr h) : pw X d h 253 0 [some (.ref 141), none, none] [] (fun h' v => h = h' ∧ ∃ a : Int, v = .inl (some (pw_i a)) ∧ (-1) ≤ a ∧ a ≤ 9 ∧ ((pw_g h 125 8 = 0 ∧ K (pw_g h 125 7).toNat = 1 → a = pt_FF wr (V (pw_g h 125 7).toNat)) ∧ (¬ (pw_g h 125 8 = 0 ∧ K (pw_g h 125 7).toNat = 1) → a = -1))) := by
  have E : pm_ent 253 = some (1, 3, 12, 0, pmc_253) := rfl
  have h45 := hp0.2.2.2.2.2
  refine pw_ld E (pc' := 1) (st' := [pw_i ((-1))]) rfl (fun _ => rfl) ?_
  refine pw_istn E (pc' := 2) (ls' := [some (.ref 141), some (pw_i ((-1))), none]) rfl rfl rfl rfl ?_
  refine pw_bip E (pc' := 4) rfl rfl (by decide) ?_
  refine pw_istn E (pc' := 5) (ls' := [some (.ref 141), some (pw_i ((-1))), some (pw_i 8)]) rfl rfl rfl rfl ?_
  have L5 : ∀ (n5 : Nat) (k5_1 : Int) (k5_2 : Int), (-1) ≤ k5_1 → k5_1 ≤ 9 → 8 ≤ k5_2 → k5_2 ≤ 18 → pt_fI (pw_g h 125 8) (K (pw_g h 125 7).toNat) (fun k => pt_wc (8 + k)) (V (pw_g h 125 7).toNat) (k5_2 - 8) (k5_1) → wr = 0 ∨ k5_2 = 8 → (18 - k5_2).toNat = n5 → pw X d h 253 5 [some (.ref 141), some (pw_i k5_1), some (pw_i k5_2)] [] (fun h' v => h = h' ∧ ∃ a : Int, v = .inl (some (pw_i a)) ∧ (-1) ≤ a ∧ a ≤ 9 ∧ ((pw_g h 125 8 = 0 ∧ K (pw_g h 125 7).toNat = 1 → a = pt_FF wr (V (pw_g h 125 7).toNat)) ∧ (¬ (pw_g h 125 8 = 0 ∧ K (pw_g h 125 7).toNat = 1) → a = -1))) := by
    intro n5
    induction n5 using Nat.strongRecOn with
    | ind n5 ih5 =>
      intro k5_1 k5_2 k5_1a k5_1b k5_2a k5_2b hx5_0 hx5_1 hm5
      refine pw_ld E (pc' := 6) (st' := [pw_i k5_2]) rfl (fun _ => rfl) ?_
      refine pw_bip E (pc' := 8) rfl rfl (by decide) ?_
      refine pw_if2 E (pc' := 41) rfl (by decide) (by omega) (by omega) (by decide) (by decide) ?_ ?_
      · intro hc1
        change (18 : Int) ≤ k5_2 at hc1
        refine pw_ld E (pc' := 42) (st' := [pw_i 0]) rfl (fun _ => rfl) ?_
        refine pw_istn E (pc' := 43) (ls' := [some (.ref 141), some (pw_i k5_1), some (pw_i 0)]) rfl rfl rfl rfl ?_
        have L43 : ∀ (n43 : Nat) (k43_1 : Int) (k43_2 : Int), (-1) ≤ k43_1 → k43_1 ≤ 9 → 0 ≤ k43_2 → k43_2 ≤ 9 → ((wr = 0 → pt_fI (pw_g h 125 8) (K (pw_g h 125 7).toNat) (fun k => pt_wc (8 + k)) (V (pw_g h 125 7).toNat) (10) (k43_1)) ∧ (wr ≠ 0 → pt_fI (pw_g h 125 8) (K (pw_g h 125 7).toNat) (fun k => pt_wc (pt_wf k).toNat) (V (pw_g h 125 7).toNat) (k43_2) (k43_1))) → (9 - k43_2).toNat = n43 → pw X d h 253 43 [some (.ref 141), some (pw_i k43_1), some (pw_i k43_2)] [] (fun h' v => h = h' ∧ ∃ a : Int, v = .inl (some (pw_i a)) ∧ (-1) ≤ a ∧ a ≤ 9 ∧ ((pw_g h 125 8 = 0 ∧ K (pw_g h 125 7).toNat = 1 → a = pt_FF wr (V (pw_g h 125 7).toNat)) ∧ (¬ (pw_g h 125 8 = 0 ∧ K (pw_g h 125 7).toNat = 1) → a = -1))) := by
          intro n43
          induction n43 using Nat.strongRecOn with
          | ind n43 ih43 =>
            intro k43_1 k43_2 k43_1a k43_1b k43_2a k43_2b hx43_0 hm43
            refine pw_ld E (pc' := 44) (st' := [pw_i k43_2]) rfl (fun _ => rfl) ?_
            refine pw_bip E (pc' := 46) rfl rfl (by decide) ?_
            refine pw_if2 E (pc' := 81) rfl (by decide) (by omega) (by omega) (by decide) (by decide) ?_ ?_
            · intro hc2
              change (9 : Int) ≤ k43_2 at hc2
              refine pw_ld E (pc' := 82) (st' := [pw_i k43_1]) rfl (fun _ => rfl) ?_
              refine pw_iret E rfl ?_
              have hr : (pw_g h 125 8 = 0 ∧ K (pw_g h 125 7).toNat = 1 → k43_1 = pt_FF wr (V (pw_g h 125 7).toNat)) ∧ (¬ (pw_g h 125 8 = 0 ∧ K (pw_g h 125 7).toNat = 1) → k43_1 = -1) := by
                have h45 := hp0.2.2.2.2.2
                rcases (by omega : wr = 0 ∨ wr ≠ 0) with q | q
                · have z := hx43_0.1 q; unfold pt_FF; rw [if_pos q]; exact z
                · have z := hx43_0.2 q; rw [show k43_2 = 9 by omega] at z; unfold pt_FF; rw [if_neg q]; exact z
              exact ⟨rfl, ⟨_, rfl, by omega, by omega, hr⟩⟩
            · intro hc3
              change ¬ ((9 : Int) ≤ k43_2) at hc3
              refine pw_ld E (pc' := 50) (st' := [.ref 141]) rfl (fun _ => rfl) ?_
              refine pw_getI2 I E (c := 125) (k := 45) (pc' := 53) rfl rfl rfl rfl rfl rfl (fun hf4a hf4b => ?_)
              refine pw_if E (pc' := 81) rfl (by decide) (by omega) (by omega) ?_ ?_
              · intro hc5
                change pw_g h 125 45 = (0 : Int) at hc5
                refine pw_ld E (pc' := 82) (st' := [pw_i k43_1]) rfl (fun _ => rfl) ?_
                refine pw_iret E rfl ?_
                have hr : (pw_g h 125 8 = 0 ∧ K (pw_g h 125 7).toNat = 1 → k43_1 = pt_FF wr (V (pw_g h 125 7).toNat)) ∧ (¬ (pw_g h 125 8 = 0 ∧ K (pw_g h 125 7).toNat = 1) → k43_1 = -1) := by
                  have h45 := hp0.2.2.2.2.2
                  rcases (by omega : wr = 0 ∨ wr ≠ 0) with q | q
                  · have z := hx43_0.1 q; unfold pt_FF; rw [if_pos q]; exact z
                  · have z := hx43_0.2 q; rw [show k43_2 = 9 by omega] at z; unfold pt_FF; rw [if_neg q]; exact z
                exact ⟨rfl, ⟨_, rfl, by omega, by omega, hr⟩⟩
              · intro hc6
                change ¬ (pw_g h 125 45 = (0 : Int)) at hc6
                refine pw_ld E (pc' := 57) (st' := [.ref 141]) rfl (fun _ => rfl) ?_
                refine pw_ld E (pc' := 58) (st' := [.ref 141, .ref 141]) rfl (fun _ => rfl) ?_
                refine pw_getR (b := 164) I E (c := 125) (k := 35) (pc' := 61) rfl rfl rfl rfl rfl rfl rfl ?_
                refine pw_ld E (pc' := 62) (st' := [pw_i k43_2, .ref 164, .ref 141]) rfl (fun _ => rfl) ?_
                refine pw_ald2 I E (c := 148) (pc' := 63) rfl rfl rfl (by decide) rfl (by decide) (by omega) (by omega) rfl (fun hf7a hf7b => ?_)
                have hwf : pw_g h 148 (k43_2).toNat = pt_wf (k43_2).toNat := hp0.2.2.2.2.1 _ (by omega)
                obtain ⟨f8l, f8h, -⟩ := pw_obj (c := 125) I rfl
                refine pw_call (m' := 244) (As := [.ref 141, pw_i (pw_g h 148 (k43_2.toNat))]) (rest := []) (ls'' := [some (.ref 141), some (pw_i (pw_g h 148 (k43_2.toNat)))]) (Nat.le_trans (by decide) hd) E rfl (fun _ => pw_iV rfl rfl rfl rfl (pw_cellI f8h rfl)) (rfl : pm_ent 244 = some (2, 2, 12, 1, pmc_244)) rfl rfl (cm_244 (pw_dp hd (by decide)) I (pw_g h 148 (k43_2.toNat)) (by omega) (by omega)) ?_
                rintro u10 v9 ⟨rfl, x11, rfl, hx11a, hx11b, hx11r⟩
                refine ⟨_, rfl, ?_⟩
                show pw X d h 253 66 [some (.ref 141), some (pw_i k43_1), some (pw_i k43_2)] [pw_i x11] _
                change x11 = pw_wd h (pw_g h 148 (k43_2.toNat)) ∧ (x11 = 1 → pw_g h 125 8 = 0 ∧ pw_g h 127 (pw_g h 125 7).toNat = 1) at hx11r
                rcases (by omega : x11 = 1 ∨ x11 = 0) with hb12 | hb12
                · skip
                  have o1 := pt_wdI hp0 (w := pw_g h 148 (k43_2).toNat) (by omega) (by omega)
                  rw [← hx11r.1, hwf] at o1
                  have hw : wr ≠ 0 := fun q => by have := hp0.2.2.2.2.2; omega
                  have o2 := pt_fI.st (hx43_0.2 hw) (by omega) o1
                  refine pw_if E (pc' := 73) rfl (by decide) (by omega) (by omega) ?_ ?_
                  · intro hc13
                    change x11 = (0 : Int) at hc13
                    exfalso; omega
                  · intro hc14
                    change ¬ (x11 = (0 : Int)) at hc14
                    refine pw_ld E (pc' := 70) (st' := [pw_i k43_2]) rfl (fun _ => rfl) ?_
                    refine pw_goto E (pc' := 74) rfl (by decide) ?_
                    refine pw_istn E (pc' := 75) (ls' := [some (.ref 141), some (pw_i k43_2), some (pw_i k43_2)]) rfl rfl rfl rfl ?_
                    have o3 := o2.1 (by omega)
                    refine pw_inc E (pc' := 78) (ls' := [some (.ref 141), some (pw_i k43_2), some (pw_i (k43_2 + 1))]) rfl rfl rfl rfl ?_
                    refine pw_goto E (pc' := 43) rfl (by decide) ?_
                    exact ih43 _ (by omega) (k43_2) (k43_2 + 1)  (by omega) (by omega) (by omega) (by omega) ⟨fun q => absurd q hw, fun _ => o3⟩ rfl
                · skip
                  have o1 := pt_wdI hp0 (w := pw_g h 148 (k43_2).toNat) (by omega) (by omega)
                  rw [← hx11r.1, hwf] at o1
                  have hw : wr ≠ 0 := fun q => by have := hp0.2.2.2.2.2; omega
                  have o2 := pt_fI.st (hx43_0.2 hw) (by omega) o1
                  refine pw_if E (pc' := 73) rfl (by decide) (by omega) (by omega) ?_ ?_
                  · intro hc16
                    change x11 = (0 : Int) at hc16
                    refine pw_ld E (pc' := 74) (st' := [pw_i k43_1]) rfl (fun _ => rfl) ?_
                    refine pw_istn E (pc' := 75) (ls' := [some (.ref 141), some (pw_i k43_1), some (pw_i k43_2)]) rfl rfl rfl rfl ?_
                    have o3 := o2.2 (by omega)
                    refine pw_inc E (pc' := 78) (ls' := [some (.ref 141), some (pw_i k43_1), some (pw_i (k43_2 + 1))]) rfl rfl rfl rfl ?_
                    refine pw_goto E (pc' := 43) rfl (by decide) ?_
                    exact ih43 _ (by omega) (k43_1) (k43_2 + 1)  (by omega) (by omega) (by omega) (by omega) ⟨fun q => absurd q hw, fun _ => o3⟩ rfl
                  · intro hc17
                    change ¬ (x11 = (0 : Int)) at hc17
                    exfalso; omega
        exact L43 _ (k5_1) (0)  (by omega) (by omega) (by omega) (by omega) ⟨fun q => by rw [show (10 : Int) = k5_2 - 8 by (have h45 := hp0.2.2.2.2.2; omega)]; exact hx5_0, fun q => by rw [show k5_2 - 8 = 0 by (have h45 := hp0.2.2.2.2.2; omega)] at hx5_0; exact hx5_0⟩ rfl
      · intro hc18
        change ¬ ((18 : Int) ≤ k5_2) at hc18
        refine pw_ld E (pc' := 12) (st' := [.ref 141]) rfl (fun _ => rfl) ?_
        refine pw_getI2 I E (c := 125) (k := 45) (pc' := 15) rfl rfl rfl rfl rfl rfl (fun hf19a hf19b => ?_)
        refine pw_if E (pc' := 41) rfl (by decide) (by omega) (by omega) ?_ ?_
        · intro hc20
          change pw_g h 125 45 ≠ (0 : Int) at hc20
          refine pw_ld E (pc' := 42) (st' := [pw_i 0]) rfl (fun _ => rfl) ?_
          refine pw_istn E (pc' := 43) (ls' := [some (.ref 141), some (pw_i k5_1), some (pw_i 0)]) rfl rfl rfl rfl ?_
          have L43 : ∀ (n43 : Nat) (k43_1 : Int) (k43_2 : Int), (-1) ≤ k43_1 → k43_1 ≤ 9 → 0 ≤ k43_2 → k43_2 ≤ 9 → ((wr = 0 → pt_fI (pw_g h 125 8) (K (pw_g h 125 7).toNat) (fun k => pt_wc (8 + k)) (V (pw_g h 125 7).toNat) (10) (k43_1)) ∧ (wr ≠ 0 → pt_fI (pw_g h 125 8) (K (pw_g h 125 7).toNat) (fun k => pt_wc (pt_wf k).toNat) (V (pw_g h 125 7).toNat) (k43_2) (k43_1))) → (9 - k43_2).toNat = n43 → pw X d h 253 43 [some (.ref 141), some (pw_i k43_1), some (pw_i k43_2)] [] (fun h' v => h = h' ∧ ∃ a : Int, v = .inl (some (pw_i a)) ∧ (-1) ≤ a ∧ a ≤ 9 ∧ ((pw_g h 125 8 = 0 ∧ K (pw_g h 125 7).toNat = 1 → a = pt_FF wr (V (pw_g h 125 7).toNat)) ∧ (¬ (pw_g h 125 8 = 0 ∧ K (pw_g h 125 7).toNat = 1) → a = -1))) := by
            intro n43
            induction n43 using Nat.strongRecOn with
            | ind n43 ih43 =>
              intro k43_1 k43_2 k43_1a k43_1b k43_2a k43_2b hx43_0 hm43
              refine pw_ld E (pc' := 44) (st' := [pw_i k43_2]) rfl (fun _ => rfl) ?_
              refine pw_bip E (pc' := 46) rfl rfl (by decide) ?_
              refine pw_if2 E (pc' := 81) rfl (by decide) (by omega) (by omega) (by decide) (by decide) ?_ ?_
              · intro hc21
                change (9 : Int) ≤ k43_2 at hc21
                refine pw_ld E (pc' := 82) (st' := [pw_i k43_1]) rfl (fun _ => rfl) ?_
                refine pw_iret E rfl ?_
                have hr : (pw_g h 125 8 = 0 ∧ K (pw_g h 125 7).toNat = 1 → k43_1 = pt_FF wr (V (pw_g h 125 7).toNat)) ∧ (¬ (pw_g h 125 8 = 0 ∧ K (pw_g h 125 7).toNat = 1) → k43_1 = -1) := by
                  have h45 := hp0.2.2.2.2.2
                  rcases (by omega : wr = 0 ∨ wr ≠ 0) with q | q
                  · have z := hx43_0.1 q; unfold pt_FF; rw [if_pos q]; exact z
                  · have z := hx43_0.2 q; rw [show k43_2 = 9 by omega] at z; unfold pt_FF; rw [if_neg q]; exact z
                exact ⟨rfl, ⟨_, rfl, by omega, by omega, hr⟩⟩
              · intro hc22
                change ¬ ((9 : Int) ≤ k43_2) at hc22
                refine pw_ld E (pc' := 50) (st' := [.ref 141]) rfl (fun _ => rfl) ?_
                refine pw_getI2 I E (c := 125) (k := 45) (pc' := 53) rfl rfl rfl rfl rfl rfl (fun hf23a hf23b => ?_)
                refine pw_if E (pc' := 81) rfl (by decide) (by omega) (by omega) ?_ ?_
                · intro hc24
                  change pw_g h 125 45 = (0 : Int) at hc24
                  exfalso; omega
                · intro hc25
                  change ¬ (pw_g h 125 45 = (0 : Int)) at hc25
                  refine pw_ld E (pc' := 57) (st' := [.ref 141]) rfl (fun _ => rfl) ?_
                  refine pw_ld E (pc' := 58) (st' := [.ref 141, .ref 141]) rfl (fun _ => rfl) ?_
                  refine pw_getR (b := 164) I E (c := 125) (k := 35) (pc' := 61) rfl rfl rfl rfl rfl rfl rfl ?_
                  refine pw_ld E (pc' := 62) (st' := [pw_i k43_2, .ref 164, .ref 141]) rfl (fun _ => rfl) ?_
                  refine pw_ald2 I E (c := 148) (pc' := 63) rfl rfl rfl (by decide) rfl (by decide) (by omega) (by omega) rfl (fun hf26a hf26b => ?_)
                  have hwf : pw_g h 148 (k43_2).toNat = pt_wf (k43_2).toNat := hp0.2.2.2.2.1 _ (by omega)
                  obtain ⟨f27l, f27h, -⟩ := pw_obj (c := 125) I rfl
                  refine pw_call (m' := 244) (As := [.ref 141, pw_i (pw_g h 148 (k43_2.toNat))]) (rest := []) (ls'' := [some (.ref 141), some (pw_i (pw_g h 148 (k43_2.toNat)))]) (Nat.le_trans (by decide) hd) E rfl (fun _ => pw_iV rfl rfl rfl rfl (pw_cellI f27h rfl)) (rfl : pm_ent 244 = some (2, 2, 12, 1, pmc_244)) rfl rfl (cm_244 (pw_dp hd (by decide)) I (pw_g h 148 (k43_2.toNat)) (by omega) (by omega)) ?_
                  rintro u29 v28 ⟨rfl, x30, rfl, hx30a, hx30b, hx30r⟩
                  refine ⟨_, rfl, ?_⟩
                  show pw X d h 253 66 [some (.ref 141), some (pw_i k43_1), some (pw_i k43_2)] [pw_i x30] _
                  change x30 = pw_wd h (pw_g h 148 (k43_2.toNat)) ∧ (x30 = 1 → pw_g h 125 8 = 0 ∧ pw_g h 127 (pw_g h 125 7).toNat = 1) at hx30r
                  rcases (by omega : x30 = 1 ∨ x30 = 0) with hb31 | hb31
                  · skip
                    have o1 := pt_wdI hp0 (w := pw_g h 148 (k43_2).toNat) (by omega) (by omega)
                    rw [← hx30r.1, hwf] at o1
                    have hw : wr ≠ 0 := fun q => by have := hp0.2.2.2.2.2; omega
                    have o2 := pt_fI.st (hx43_0.2 hw) (by omega) o1
                    refine pw_if E (pc' := 73) rfl (by decide) (by omega) (by omega) ?_ ?_
                    · intro hc32
                      change x30 = (0 : Int) at hc32
                      exfalso; omega
                    · intro hc33
                      change ¬ (x30 = (0 : Int)) at hc33
                      refine pw_ld E (pc' := 70) (st' := [pw_i k43_2]) rfl (fun _ => rfl) ?_
                      refine pw_goto E (pc' := 74) rfl (by decide) ?_
                      refine pw_istn E (pc' := 75) (ls' := [some (.ref 141), some (pw_i k43_2), some (pw_i k43_2)]) rfl rfl rfl rfl ?_
                      have o3 := o2.1 (by omega)
                      refine pw_inc E (pc' := 78) (ls' := [some (.ref 141), some (pw_i k43_2), some (pw_i (k43_2 + 1))]) rfl rfl rfl rfl ?_
                      refine pw_goto E (pc' := 43) rfl (by decide) ?_
                      exact ih43 _ (by omega) (k43_2) (k43_2 + 1)  (by omega) (by omega) (by omega) (by omega) ⟨fun q => absurd q hw, fun _ => o3⟩ rfl
                  · skip
                    have o1 := pt_wdI hp0 (w := pw_g h 148 (k43_2).toNat) (by omega) (by omega)
                    rw [← hx30r.1, hwf] at o1
                    have hw : wr ≠ 0 := fun q => by have := hp0.2.2.2.2.2; omega
                    have o2 := pt_fI.st (hx43_0.2 hw) (by omega) o1
                    refine pw_if E (pc' := 73) rfl (by decide) (by omega) (by omega) ?_ ?_
                    · intro hc35
                      change x30 = (0 : Int) at hc35
                      refine pw_ld E (pc' := 74) (st' := [pw_i k43_1]) rfl (fun _ => rfl) ?_
                      refine pw_istn E (pc' := 75) (ls' := [some (.ref 141), some (pw_i k43_1), some (pw_i k43_2)]) rfl rfl rfl rfl ?_
                      have o3 := o2.2 (by omega)
                      refine pw_inc E (pc' := 78) (ls' := [some (.ref 141), some (pw_i k43_1), some (pw_i (k43_2 + 1))]) rfl rfl rfl rfl ?_
                      refine pw_goto E (pc' := 43) rfl (by decide) ?_
                      exact ih43 _ (by omega) (k43_1) (k43_2 + 1)  (by omega) (by omega) (by omega) (by omega) ⟨fun q => absurd q hw, fun _ => o3⟩ rfl
                    · intro hc36
                      change ¬ (x30 = (0 : Int)) at hc36
                      exfalso; omega
          exact L43 _ (k5_1) (0)  (by omega) (by omega) (by omega) (by omega) ⟨fun q => by rw [show (10 : Int) = k5_2 - 8 by (have h45 := hp0.2.2.2.2.2; omega)]; exact hx5_0, fun q => by rw [show k5_2 - 8 = 0 by (have h45 := hp0.2.2.2.2.2; omega)] at hx5_0; exact hx5_0⟩ rfl
        · intro hc37
          change ¬ (pw_g h 125 45 ≠ (0 : Int)) at hc37
          refine pw_ld E (pc' := 19) (st' := [.ref 141]) rfl (fun _ => rfl) ?_
          refine pw_ld E (pc' := 20) (st' := [pw_i k5_2, .ref 141]) rfl (fun _ => rfl) ?_
          obtain ⟨f38l, f38h, -⟩ := pw_obj (c := 125) I rfl
          refine pw_call (m' := 244) (As := [.ref 141, pw_i k5_2]) (rest := []) (ls'' := [some (.ref 141), some (pw_i k5_2)]) (Nat.le_trans (by decide) hd) E rfl (fun _ => pw_iV rfl rfl rfl rfl (pw_cellI f38h rfl)) (rfl : pm_ent 244 = some (2, 2, 12, 1, pmc_244)) rfl rfl (cm_244 (pw_dp hd (by decide)) I (k5_2) (by omega) (by omega)) ?_
          rintro u40 v39 ⟨rfl, x41, rfl, hx41a, hx41b, hx41r⟩
          refine ⟨_, rfl, ?_⟩
          show pw X d h 253 23 [some (.ref 141), some (pw_i k5_1), some (pw_i k5_2)] [pw_i x41] _
          change x41 = pw_wd h k5_2 ∧ (x41 = 1 → pw_g h 125 8 = 0 ∧ pw_g h 127 (pw_g h 125 7).toNat = 1) at hx41r
          rcases (by omega : x41 = 1 ∨ x41 = 0) with hb42 | hb42
          · skip
            have o1 := pt_wdI hp0 (w := k5_2) (by omega) (by omega)
            rw [← hx41r.1, show k5_2.toNat = 8 + (k5_2 - 8).toNat by omega] at o1
            have o2 := pt_fI.st hx5_0 (by omega) o1
            rw [show k5_2 - 8 + 1 = k5_2 + 1 - 8 by omega] at o2
            refine pw_if E (pc' := 33) rfl (by decide) (by omega) (by omega) ?_ ?_
            · intro hc43
              change x41 = (0 : Int) at hc43
              exfalso; omega
            · intro hc44
              change ¬ (x41 = (0 : Int)) at hc44
              refine pw_ld E (pc' := 27) (st' := [pw_i k5_2]) rfl (fun _ => rfl) ?_
              refine pw_bip E (pc' := 29) rfl rfl (by decide) ?_
              refine pw_sub E (pc' := 30) rfl rfl ?_
              refine pw_goto E (pc' := 34) rfl (by decide) ?_
              refine pw_istn E (pc' := 35) (ls' := [some (.ref 141), some (pw_i (k5_2 - 8)), some (pw_i k5_2)]) rfl rfl rfl rfl ?_
              have o3 := o2.1 (by omega)
              refine pw_inc E (pc' := 38) (ls' := [some (.ref 141), some (pw_i (k5_2 - 8)), some (pw_i (k5_2 + 1))]) rfl rfl rfl rfl ?_
              refine pw_goto E (pc' := 5) rfl (by decide) ?_
              exact ih5 _ (by omega) (k5_2 - 8) (k5_2 + 1)  (by omega) (by omega) (by omega) (by omega) o3 (by omega) rfl
          · skip
            have o1 := pt_wdI hp0 (w := k5_2) (by omega) (by omega)
            rw [← hx41r.1, show k5_2.toNat = 8 + (k5_2 - 8).toNat by omega] at o1
            have o2 := pt_fI.st hx5_0 (by omega) o1
            rw [show k5_2 - 8 + 1 = k5_2 + 1 - 8 by omega] at o2
            refine pw_if E (pc' := 33) rfl (by decide) (by omega) (by omega) ?_ ?_
            · intro hc46
              change x41 = (0 : Int) at hc46
              refine pw_ld E (pc' := 34) (st' := [pw_i k5_1]) rfl (fun _ => rfl) ?_
              refine pw_istn E (pc' := 35) (ls' := [some (.ref 141), some (pw_i k5_1), some (pw_i k5_2)]) rfl rfl rfl rfl ?_
              have o3 := o2.2 (by omega)
              refine pw_inc E (pc' := 38) (ls' := [some (.ref 141), some (pw_i k5_1), some (pw_i (k5_2 + 1))]) rfl rfl rfl rfl ?_
              refine pw_goto E (pc' := 5) rfl (by decide) ?_
              exact ih5 _ (by omega) (k5_1) (k5_2 + 1)  (by omega) (by omega) (by omega) (by omega) o3 (by omega) rfl
            · intro hc47
              change ¬ (x41 = (0 : Int)) at hc47
              exfalso; omega
  exact L5 _ ((-1)) (8)  (by omega) (by omega) (by omega) (by omega) pt_fI.z (by omega) rfl
set_option maxHeartbeats 4000000 in
theorem cm_245_t {X : List (Nat × List Value)} {d : Nat} {h : pm_H} (hd : 1 ≤ d) (I : pw_I h) (wh : Int) (hwh1 : 1 ≤ wh) (hwh2 : wh ≤ 5) : pw X d h 245 0 [some (.ref 141), some (pw_i wh)] [] (fun h' v => pw_I h' ∧ pw_E [125] h h' ∧ ((pw_g h 125 8 = 0 → pw_g h' 125 8 = wh + 16 * pw_g h 128 (pw_g h 125 7).toNat) ∧ (pw_g h 125 8 ≠ 0 → pw_g h' 125 8 = pw_g h 125 8) ∧ pw_g h' 125 7 = pw_g h 125 7 ∧ pw_g h' 125 32 = pw_g h 125 32 ∧ pw_g h' 125 45 = pw_g h 125 45) ∧ (v = .inl none)) := by
  have E : pm_ent 245 = some (2, 2, 12, 4, pmc_245) := rfl
  have E0 : pw_E [125] h h := pw_E.rf _ _
  refine pw_ld E (pc' := 1) (st' := [.ref 141]) rfl (fun _ => rfl) ?_
  refine pw_getI2 I E (c := 125) (k := 8) (pc' := 4) rfl rfl rfl rfl rfl rfl (fun hf1a hf1b => ?_)
  refine pw_if E (pc' := 25) rfl (by decide) (by omega) (by omega) ?_ ?_
  · intro hc2
    change pw_g h 125 8 ≠ (0 : Int) at hc2
    refine pw_vret E rfl ?_
    exact ⟨I, E0, ⟨⟨fun _ => by omega, fun _ => by omega, by omega, by omega, by omega⟩, rfl⟩⟩
  · intro hc3
    change ¬ (pw_g h 125 8 ≠ (0 : Int)) at hc3
    refine pw_ld E (pc' := 8) (st' := [.ref 141]) rfl (fun _ => rfl) ?_
    refine pw_ld E (pc' := 9) (st' := [pw_i wh, .ref 141]) rfl (fun _ => rfl) ?_
    refine pw_bip E (pc' := 11) rfl rfl (by decide) ?_
    refine pw_ld E (pc' := 12) (st' := [.ref 141, pw_i 16, pw_i wh, .ref 141]) rfl (fun _ => rfl) ?_
    refine pw_getR (b := 144) I E (c := 125) (k := 5) (pc' := 15) rfl rfl rfl rfl rfl rfl rfl ?_
    refine pw_ld E (pc' := 16) (st' := [.ref 141, .ref 144, pw_i 16, pw_i wh, .ref 141]) rfl (fun _ => rfl) ?_
    refine pw_getI2 I E (c := 125) (k := 7) (pc' := 19) rfl rfl rfl rfl rfl rfl (fun hf4a hf4b => ?_)
    refine pw_ald2 I E (c := 128) (pc' := 20) rfl rfl rfl (by decide) rfl (by decide) (by omega) (by omega) rfl (fun hf5a hf5b => ?_)
    refine pw_mul E (pc' := 21) rfl rfl ?_
    refine pw_add E (pc' := 22) rfl rfl ?_
    refine pw_putI I E (c := 125) (k := 8) (pc' := 25) rfl rfl rfl rfl (by omega) (by omega) (by omega) (by omega) rfl rfl ?_
    intro h6I h6E
    generalize h6w : pw_w h 125 8 (pw_i (wh + (16 * (pw_g h 128 ((pw_g h 125 7).toNat))))) = h6 at h6I h6E ⊢
    have h6F := E0.tr (h6E.wk (W' := [125]) (by first | rfl | simp))
    have he7 : pw_g h6 125 7 = pw_g h 125 7 := by rw [← h6w]; exact pw_g_ne (by omega)
    have he8 : pw_g h6 125 8 = wh + (16 * (pw_g h 128 ((pw_g h 125 7).toNat))) := by rw [← h6w]; exact pw_g_eq (c := 125) (k := 8) I rfl rfl (by omega) (by omega)
    have he9 : pw_g h6 125 32 = pw_g h 125 32 := by rw [← h6w]; exact pw_g_ne (by omega)
    have he10 : pw_g h6 125 45 = pw_g h 125 45 := by rw [← h6w]; exact pw_g_ne (by omega)
    refine pw_vret E rfl ?_
    exact ⟨h6I, h6F, ⟨⟨fun _ => by omega, fun _ => by omega, by omega, by omega, by omega⟩, rfl⟩⟩
set_option maxHeartbeats 4000000 in
theorem cm_247_t {X : List (Nat × List Value)} {d : Nat} {h : pm_H} (hd : 2 ≤ d) (I : pw_I h) (wd : Int) (hwd1 : 0 ≤ wd) (hwd2 : wd ≤ 27) (hp0 : pw_g h 125 7 ≤ 1000) : pw X d h 247 0 [some (.ref 141), some (pw_i wd), none] [] (fun h' v => pw_I h' ∧ pw_E [125] h h' ∧ ∃ a : Int, v = .inl (some (pw_i a)) ∧ 0 ≤ a ∧ a ≤ 1 ∧ (a = pw_wd h wd ∧ pw_g h' 125 7 = pw_g h 125 7 + a ∧ pw_g h' 125 8 = pw_g h 125 8 ∧ pw_g h' 125 32 = pw_g h 125 32 ∧ pw_g h' 125 45 = pw_g h 125 45)) := by
  have E : pm_ent 247 = some (2, 3, 12, 1, pmc_247) := rfl
  have E0 : pw_E [125] h h := pw_E.rf _ _
  refine pw_ld E (pc' := 1) (st' := [.ref 141]) rfl (fun _ => rfl) ?_
  refine pw_ld E (pc' := 2) (st' := [pw_i wd, .ref 141]) rfl (fun _ => rfl) ?_
  obtain ⟨f1l, f1h, -⟩ := pw_obj (c := 125) I rfl
  refine pw_call (m' := 244) (As := [.ref 141, pw_i wd]) (rest := []) (ls'' := [some (.ref 141), some (pw_i wd)]) (Nat.le_trans (by decide) hd) E rfl (fun _ => pw_iV rfl rfl rfl rfl (pw_cellI f1h rfl)) (rfl : pm_ent 244 = some (2, 2, 12, 1, pmc_244)) rfl rfl (cm_244 (pw_dp hd (by decide)) I (wd) (by omega) (by omega)) ?_
  rintro u3 v2 ⟨rfl, x4, rfl, hx4a, hx4b, hx4r⟩
  refine ⟨_, rfl, ?_⟩
  show pw X d h 247 5 [some (.ref 141), some (pw_i wd), none] [pw_i x4] _
  change x4 = pw_wd h wd ∧ (x4 = 1 → pw_g h 125 8 = 0 ∧ pw_g h 127 (pw_g h 125 7).toNat = 1) at hx4r
  refine pw_istn E (pc' := 6) (ls' := [some (.ref 141), some (pw_i wd), some (pw_i x4)]) rfl rfl rfl rfl ?_
  refine pw_ld E (pc' := 7) (st' := [.ref 141]) rfl (fun _ => rfl) ?_
  refine pw_ld E (pc' := 8) (st' := [.ref 141, .ref 141]) rfl (fun _ => rfl) ?_
  refine pw_getI2 I E (c := 125) (k := 7) (pc' := 11) rfl rfl rfl rfl rfl rfl (fun hf5a hf5b => ?_)
  refine pw_ld E (pc' := 12) (st' := [pw_i x4, pw_i (pw_g h 125 7), .ref 141]) rfl (fun _ => rfl) ?_
  refine pw_if E (pc' := 19) rfl (by decide) (by omega) (by omega) ?_ ?_
  · intro hc6
    change x4 = (0 : Int) at hc6
    refine pw_ld E (pc' := 20) (st' := [pw_i 0, pw_i (pw_g h 125 7), .ref 141]) rfl (fun _ => rfl) ?_
    refine pw_add E (pc' := 21) rfl rfl ?_
    refine pw_putI I E (c := 125) (k := 7) (pc' := 24) rfl rfl rfl rfl (by omega) (by omega) (by omega) (by omega) rfl rfl ?_
    intro h7I h7E
    generalize h7w : pw_w h 125 7 (pw_i ((pw_g h 125 7) + 0)) = h7 at h7I h7E ⊢
    have h7F := E0.tr (h7E.wk (W' := [125]) (by first | rfl | simp))
    refine pw_ld E (pc' := 25) (st' := [pw_i x4]) rfl (fun _ => rfl) ?_
    have he8 : pw_g h7 125 7 = (pw_g h 125 7) + 0 := by rw [← h7w]; exact pw_g_eq (c := 125) (k := 7) I rfl rfl (by omega) (by omega)
    have he9 : pw_g h7 125 8 = pw_g h 125 8 := by rw [← h7w]; exact pw_g_ne (by omega)
    have he10 : pw_g h7 125 32 = pw_g h 125 32 := by rw [← h7w]; exact pw_g_ne (by omega)
    have he11 : pw_g h7 125 45 = pw_g h 125 45 := by rw [← h7w]; exact pw_g_ne (by omega)
    refine pw_zret E rfl (by omega) ?_
    exact ⟨h7I, h7F, ⟨_, rfl, by omega, by omega, ⟨by omega, by omega, by omega, by omega, by omega⟩⟩⟩
  · intro hc12
    change ¬ (x4 = (0 : Int)) at hc12
    refine pw_ld E (pc' := 16) (st' := [pw_i 1, pw_i (pw_g h 125 7), .ref 141]) rfl (fun _ => rfl) ?_
    refine pw_goto E (pc' := 20) rfl (by decide) ?_
    refine pw_add E (pc' := 21) rfl rfl ?_
    refine pw_putI I E (c := 125) (k := 7) (pc' := 24) rfl rfl rfl rfl (by omega) (by omega) (by omega) (by omega) rfl rfl ?_
    intro h13I h13E
    generalize h13w : pw_w h 125 7 (pw_i ((pw_g h 125 7) + 1)) = h13 at h13I h13E ⊢
    have h13F := E0.tr (h13E.wk (W' := [125]) (by first | rfl | simp))
    refine pw_ld E (pc' := 25) (st' := [pw_i x4]) rfl (fun _ => rfl) ?_
    have he14 : pw_g h13 125 7 = (pw_g h 125 7) + 1 := by rw [← h13w]; exact pw_g_eq (c := 125) (k := 7) I rfl rfl (by omega) (by omega)
    have he15 : pw_g h13 125 8 = pw_g h 125 8 := by rw [← h13w]; exact pw_g_ne (by omega)
    have he16 : pw_g h13 125 32 = pw_g h 125 32 := by rw [← h13w]; exact pw_g_ne (by omega)
    have he17 : pw_g h13 125 45 = pw_g h 125 45 := by rw [← h13w]; exact pw_g_ne (by omega)
    refine pw_zret E rfl (by omega) ?_
    exact ⟨h13I, h13F, ⟨_, rfl, by omega, by omega, ⟨by omega, by omega, by omega, by omega, by omega⟩⟩⟩
set_option maxHeartbeats 4000000 in
theorem cm_256_t {X : List (Nat × List Value)} {d : Nat} {h : pm_H} (hd : 2 ≤ d) (I : pw_I h) (ch : Int) (hch1 : (-2147483648) ≤ ch) (hch2 : ch ≤ 2147483647) (hp0 : pw_g h 125 7 ≤ 1000) : pw X d h 256 0 [some (.ref 141), some (pw_i ch), none] [] (fun h' v => pw_I h' ∧ pw_E [125] h h' ∧ ∃ a : Int, v = .inl (some (pw_i a)) ∧ 0 ≤ a ∧ a ≤ 1 ∧ (a = pw_sg h ch ∧ pw_g h' 125 7 = pw_g h 125 7 + a ∧ pw_g h' 125 8 = pw_g h 125 8 ∧ pw_g h' 125 32 = pw_g h 125 32 ∧ pw_g h' 125 45 = pw_g h 125 45)) := by
  have E : pm_ent 256 = some (2, 3, 12, 1, pmc_256) := rfl
  have E0 : pw_E [125] h h := pw_E.rf _ _
  refine pw_ld E (pc' := 1) (st' := [.ref 141]) rfl (fun _ => rfl) ?_
  refine pw_ld E (pc' := 2) (st' := [pw_i ch, .ref 141]) rfl (fun _ => rfl) ?_
  obtain ⟨f1l, f1h, -⟩ := pw_obj (c := 125) I rfl
  refine pw_call (m' := 254) (As := [.ref 141, pw_i ch]) (rest := []) (ls'' := [some (.ref 141), some (pw_i ch)]) (Nat.le_trans (by decide) hd) E rfl (fun _ => pw_iV rfl rfl rfl rfl (pw_cellI f1h rfl)) (rfl : pm_ent 254 = some (2, 2, 12, 1, pmc_254)) rfl rfl (cm_254 (pw_dp hd (by decide)) I (ch) (by omega) (by omega)) ?_
  rintro u3 v2 ⟨rfl, x4, rfl, hx4a, hx4b, hx4r⟩
  refine ⟨_, rfl, ?_⟩
  show pw X d h 256 5 [some (.ref 141), some (pw_i ch), none] [pw_i x4] _
  change x4 = pw_sg h ch ∧ (x4 = 1 → pw_g h 125 8 = 0 ∧ pw_g h 127 (pw_g h 125 7).toNat = 3) at hx4r
  refine pw_istn E (pc' := 6) (ls' := [some (.ref 141), some (pw_i ch), some (pw_i x4)]) rfl rfl rfl rfl ?_
  refine pw_ld E (pc' := 7) (st' := [.ref 141]) rfl (fun _ => rfl) ?_
  refine pw_ld E (pc' := 8) (st' := [.ref 141, .ref 141]) rfl (fun _ => rfl) ?_
  refine pw_getI2 I E (c := 125) (k := 7) (pc' := 11) rfl rfl rfl rfl rfl rfl (fun hf5a hf5b => ?_)
  refine pw_ld E (pc' := 12) (st' := [pw_i x4, pw_i (pw_g h 125 7), .ref 141]) rfl (fun _ => rfl) ?_
  refine pw_if E (pc' := 19) rfl (by decide) (by omega) (by omega) ?_ ?_
  · intro hc6
    change x4 = (0 : Int) at hc6
    refine pw_ld E (pc' := 20) (st' := [pw_i 0, pw_i (pw_g h 125 7), .ref 141]) rfl (fun _ => rfl) ?_
    refine pw_add E (pc' := 21) rfl rfl ?_
    refine pw_putI I E (c := 125) (k := 7) (pc' := 24) rfl rfl rfl rfl (by omega) (by omega) (by omega) (by omega) rfl rfl ?_
    intro h7I h7E
    generalize h7w : pw_w h 125 7 (pw_i ((pw_g h 125 7) + 0)) = h7 at h7I h7E ⊢
    have h7F := E0.tr (h7E.wk (W' := [125]) (by first | rfl | simp))
    refine pw_ld E (pc' := 25) (st' := [pw_i x4]) rfl (fun _ => rfl) ?_
    have he8 : pw_g h7 125 7 = (pw_g h 125 7) + 0 := by rw [← h7w]; exact pw_g_eq (c := 125) (k := 7) I rfl rfl (by omega) (by omega)
    have he9 : pw_g h7 125 8 = pw_g h 125 8 := by rw [← h7w]; exact pw_g_ne (by omega)
    have he10 : pw_g h7 125 32 = pw_g h 125 32 := by rw [← h7w]; exact pw_g_ne (by omega)
    have he11 : pw_g h7 125 45 = pw_g h 125 45 := by rw [← h7w]; exact pw_g_ne (by omega)
    refine pw_zret E rfl (by omega) ?_
    exact ⟨h7I, h7F, ⟨_, rfl, by omega, by omega, ⟨by omega, by omega, by omega, by omega, by omega⟩⟩⟩
  · intro hc12
    change ¬ (x4 = (0 : Int)) at hc12
    refine pw_ld E (pc' := 16) (st' := [pw_i 1, pw_i (pw_g h 125 7), .ref 141]) rfl (fun _ => rfl) ?_
    refine pw_goto E (pc' := 20) rfl (by decide) ?_
    refine pw_add E (pc' := 21) rfl rfl ?_
    refine pw_putI I E (c := 125) (k := 7) (pc' := 24) rfl rfl rfl rfl (by omega) (by omega) (by omega) (by omega) rfl rfl ?_
    intro h13I h13E
    generalize h13w : pw_w h 125 7 (pw_i ((pw_g h 125 7) + 1)) = h13 at h13I h13E ⊢
    have h13F := E0.tr (h13E.wk (W' := [125]) (by first | rfl | simp))
    refine pw_ld E (pc' := 25) (st' := [pw_i x4]) rfl (fun _ => rfl) ?_
    have he14 : pw_g h13 125 7 = (pw_g h 125 7) + 1 := by rw [← h13w]; exact pw_g_eq (c := 125) (k := 7) I rfl rfl (by omega) (by omega)
    have he15 : pw_g h13 125 8 = pw_g h 125 8 := by rw [← h13w]; exact pw_g_ne (by omega)
    have he16 : pw_g h13 125 32 = pw_g h 125 32 := by rw [← h13w]; exact pw_g_ne (by omega)
    have he17 : pw_g h13 125 45 = pw_g h 125 45 := by rw [← h13w]; exact pw_g_ne (by omega)
    refine pw_zret E rfl (by omega) ?_
    exact ⟨h13I, h13F, ⟨_, rfl, by omega, by omega, ⟨by omega, by omega, by omega, by omega, by omega⟩⟩⟩
set_option maxHeartbeats 4000000 in
theorem cm_246_t {X : List (Nat × List Value)} {d : Nat} {h : pm_H} (hd : 3 ≤ d) (I : pw_I h) (wd : Int) (hwd1 : 0 ≤ wd) (hwd2 : wd ≤ 27) (hp0 : pw_g h 125 7 ≤ 1000) : pw X d h 246 0 [some (.ref 141), some (pw_i wd)] [] (fun h' v => pw_I h' ∧ pw_E [125] h h' ∧ ((pw_wd h wd = 1 → pw_g h' 125 7 = pw_g h 125 7 + 1 ∧ pw_g h' 125 8 = pw_g h 125 8) ∧ (pw_wd h wd ≠ 1 → pw_g h' 125 7 = pw_g h 125 7 ∧ (pw_g h 125 8 = 0 → pw_g h' 125 8 = 1 + 16 * pw_g h 128 (pw_g h 125 7).toNat) ∧ (pw_g h 125 8 ≠ 0 → pw_g h' 125 8 = pw_g h 125 8)) ∧ pw_g h' 125 32 = pw_g h 125 32 ∧ pw_g h' 125 45 = pw_g h 125 45) ∧ (v = .inl none)) := by
  have E : pm_ent 246 = some (2, 2, 12, 4, pmc_246) := rfl
  have E0 : pw_E [125] h h := pw_E.rf _ _
  refine pw_ld E (pc' := 1) (st' := [.ref 141]) rfl (fun _ => rfl) ?_
  refine pw_ld E (pc' := 2) (st' := [pw_i wd, .ref 141]) rfl (fun _ => rfl) ?_
  obtain ⟨f1l, f1h, -⟩ := pw_obj (c := 125) I rfl
  refine pw_call (m' := 247) (As := [.ref 141, pw_i wd]) (rest := []) (ls'' := [some (.ref 141), some (pw_i wd), none]) (Nat.le_trans (by decide) hd) E rfl (fun _ => pw_iV rfl rfl rfl rfl (pw_cellI f1h rfl)) (rfl : pm_ent 247 = some (2, 3, 12, 1, pmc_247)) rfl rfl (cm_247_t (pw_dp hd (by decide)) I (wd) (by omega) (by omega) (by omega)) ?_
  rintro h2 v3 ⟨h2I, h2E, x4, rfl, hx4a, hx4b, hx4r⟩
  refine ⟨_, rfl, ?_⟩
  have h2F := E0.tr (h2E.wk (W' := [125]) (by first | rfl | simp))
  show pw X d h2 246 5 [some (.ref 141), some (pw_i wd)] [pw_i x4] _
  change x4 = pw_wd h wd ∧ pw_g h2 125 7 = pw_g h 125 7 + x4 ∧ pw_g h2 125 8 = pw_g h 125 8 ∧ pw_g h2 125 32 = pw_g h 125 32 ∧ pw_g h2 125 45 = pw_g h 125 45 at hx4r
  rcases (by omega : x4 = 1 ∨ x4 = 0) with hb5 | hb5
  · skip
    refine pw_if E (pc' := 13) rfl (by decide) (by omega) (by omega) ?_ ?_
    · intro hc6
      change x4 ≠ (0 : Int) at hc6
      refine pw_vret E rfl ?_
      exact ⟨h2I, h2F, ⟨⟨fun _ => ⟨by omega, by omega⟩, fun _ => ⟨by omega, fun _ => by omega, fun _ => by omega⟩, by omega, by omega⟩, rfl⟩⟩
    · intro hc7
      change ¬ (x4 ≠ (0 : Int)) at hc7
      exfalso; omega
  · skip
    refine pw_if E (pc' := 13) rfl (by decide) (by omega) (by omega) ?_ ?_
    · intro hc9
      change x4 ≠ (0 : Int) at hc9
      exfalso; omega
    · intro hc10
      change ¬ (x4 ≠ (0 : Int)) at hc10
      refine pw_ld E (pc' := 9) (st' := [.ref 141]) rfl (fun _ => rfl) ?_
      refine pw_ld E (pc' := 10) (st' := [pw_i 1, .ref 141]) rfl (fun _ => rfl) ?_
      obtain ⟨f11l, f11h, -⟩ := pw_obj (c := 125) h2I rfl
      refine pw_call (m' := 245) (As := [.ref 141, pw_i 1]) (rest := []) (ls'' := [some (.ref 141), some (pw_i 1)]) (Nat.le_trans (by decide) hd) E rfl (fun _ => pw_iV rfl rfl rfl rfl (pw_cellI f11h rfl)) (rfl : pm_ent 245 = some (2, 2, 12, 4, pmc_245)) rfl rfl (cm_245_t (pw_dp hd (by decide)) h2I (1) (by omega) (by omega)) ?_
      rintro h12 v13 ⟨h12I, h12E, hqwr, rfl⟩
      refine ⟨_, rfl, ?_⟩
      have h12F := h2F.tr (h12E.wk (W' := [125]) (by first | rfl | simp))
      show pw X d h12 246 13 [some (.ref 141), some (pw_i wd)] [] _
      have e7 : pw_g h2 125 7 = pw_g h 125 7 := by omega
      have e8 : pw_g h2 128 (pw_g h2 125 7).toNat = pw_g h 128 (pw_g h 125 7).toNat := by rw [e7]; exact pw_Eg (c := 128) I h2E rfl rfl _
      refine pw_vret E rfl ?_
      exact ⟨h12I, h12F, ⟨⟨fun _ => ⟨by omega, by omega⟩, fun _ => ⟨by omega, fun _ => by omega, fun _ => by omega⟩, by omega, by omega⟩, rfl⟩⟩
set_option maxHeartbeats 4000000 in
theorem cm_257_t {X : List (Nat × List Value)} {d : Nat} {h : pm_H} (hd : 2 ≤ d) (I : pw_I h) (ch : Int) (hch1 : (-2147483648) ≤ ch) (hch2 : ch ≤ 2147483647) (hp0 : pw_g h 125 7 ≤ 1000) : pw X d h 257 0 [some (.ref 141), some (pw_i ch)] [] (fun h' v => pw_I h' ∧ pw_E [125] h h' ∧ ((pw_sg h ch = 1 → pw_g h' 125 7 = pw_g h 125 7 + 1 ∧ pw_g h' 125 8 = pw_g h 125 8) ∧ (pw_sg h ch ≠ 1 → pw_g h' 125 7 = pw_g h 125 7 ∧ (pw_g h 125 8 = 0 → pw_g h' 125 8 = 1 + 16 * pw_g h 128 (pw_g h 125 7).toNat) ∧ (pw_g h 125 8 ≠ 0 → pw_g h' 125 8 = pw_g h 125 8)) ∧ pw_g h' 125 32 = pw_g h 125 32 ∧ pw_g h' 125 45 = pw_g h 125 45) ∧ (v = .inl none)) := by
  have E : pm_ent 257 = some (2, 2, 12, 4, pmc_257) := rfl
  have E0 : pw_E [125] h h := pw_E.rf _ _
  refine pw_ld E (pc' := 1) (st' := [.ref 141]) rfl (fun _ => rfl) ?_
  refine pw_ld E (pc' := 2) (st' := [pw_i ch, .ref 141]) rfl (fun _ => rfl) ?_
  obtain ⟨f1l, f1h, -⟩ := pw_obj (c := 125) I rfl
  refine pw_call (m' := 254) (As := [.ref 141, pw_i ch]) (rest := []) (ls'' := [some (.ref 141), some (pw_i ch)]) (Nat.le_trans (by decide) hd) E rfl (fun _ => pw_iV rfl rfl rfl rfl (pw_cellI f1h rfl)) (rfl : pm_ent 254 = some (2, 2, 12, 1, pmc_254)) rfl rfl (cm_254 (pw_dp hd (by decide)) I (ch) (by omega) (by omega)) ?_
  rintro u3 v2 ⟨rfl, x4, rfl, hx4a, hx4b, hx4r⟩
  refine ⟨_, rfl, ?_⟩
  show pw X d h 257 5 [some (.ref 141), some (pw_i ch)] [pw_i x4] _
  change x4 = pw_sg h ch ∧ (x4 = 1 → pw_g h 125 8 = 0 ∧ pw_g h 127 (pw_g h 125 7).toNat = 3) at hx4r
  rcases (by omega : x4 = 1 ∨ x4 = 0) with hb5 | hb5
  · skip
    refine pw_if E (pc' := 21) rfl (by decide) (by omega) (by omega) ?_ ?_
    · intro hc6
      change x4 = (0 : Int) at hc6
      exfalso; omega
    · intro hc7
      change ¬ (x4 = (0 : Int)) at hc7
      refine pw_ld E (pc' := 9) (st' := [.ref 141]) rfl (fun _ => rfl) ?_
      refine pw_ld E (pc' := 10) (st' := [.ref 141, .ref 141]) rfl (fun _ => rfl) ?_
      refine pw_getI2 I E (c := 125) (k := 7) (pc' := 13) rfl rfl rfl rfl rfl rfl (fun hf8a hf8b => ?_)
      refine pw_ld E (pc' := 14) (st' := [pw_i 1, pw_i (pw_g h 125 7), .ref 141]) rfl (fun _ => rfl) ?_
      refine pw_add E (pc' := 15) rfl rfl ?_
      refine pw_putI I E (c := 125) (k := 7) (pc' := 18) rfl rfl rfl rfl (by omega) (by omega) (by omega) (by omega) rfl rfl ?_
      intro h9I h9E
      generalize h9w : pw_w h 125 7 (pw_i ((pw_g h 125 7) + 1)) = h9 at h9I h9E ⊢
      have h9F := E0.tr (h9E.wk (W' := [125]) (by first | rfl | simp))
      refine pw_goto E (pc' := 26) rfl (by decide) ?_
      have he10 : pw_g h9 125 7 = (pw_g h 125 7) + 1 := by rw [← h9w]; exact pw_g_eq (c := 125) (k := 7) I rfl rfl (by omega) (by omega)
      have he11 : pw_g h9 125 8 = pw_g h 125 8 := by rw [← h9w]; exact pw_g_ne (by omega)
      have he12 : pw_g h9 125 32 = pw_g h 125 32 := by rw [← h9w]; exact pw_g_ne (by omega)
      have he13 : pw_g h9 125 45 = pw_g h 125 45 := by rw [← h9w]; exact pw_g_ne (by omega)
      refine pw_vret E rfl ?_
      exact ⟨h9I, h9F, ⟨⟨fun _ => ⟨by omega, by omega⟩, fun _ => ⟨by omega, fun _ => by omega, fun _ => by omega⟩, by omega, by omega⟩, rfl⟩⟩
  · skip
    refine pw_if E (pc' := 21) rfl (by decide) (by omega) (by omega) ?_ ?_
    · intro hc15
      change x4 = (0 : Int) at hc15
      refine pw_ld E (pc' := 22) (st' := [.ref 141]) rfl (fun _ => rfl) ?_
      refine pw_ld E (pc' := 23) (st' := [pw_i 1, .ref 141]) rfl (fun _ => rfl) ?_
      obtain ⟨f16l, f16h, -⟩ := pw_obj (c := 125) I rfl
      refine pw_call (m' := 245) (As := [.ref 141, pw_i 1]) (rest := []) (ls'' := [some (.ref 141), some (pw_i 1)]) (Nat.le_trans (by decide) hd) E rfl (fun _ => pw_iV rfl rfl rfl rfl (pw_cellI f16h rfl)) (rfl : pm_ent 245 = some (2, 2, 12, 4, pmc_245)) rfl rfl (cm_245_t (pw_dp hd (by decide)) I (1) (by omega) (by omega)) ?_
      rintro h17 v18 ⟨h17I, h17E, hqwr, rfl⟩
      refine ⟨_, rfl, ?_⟩
      have h17F := E0.tr (h17E.wk (W' := [125]) (by first | rfl | simp))
      show pw X d h17 257 26 [some (.ref 141), some (pw_i ch)] [] _
      refine pw_vret E rfl ?_
      exact ⟨h17I, h17F, ⟨⟨fun _ => ⟨by omega, by omega⟩, fun _ => ⟨by omega, fun _ => by omega, fun _ => by omega⟩, by omega, by omega⟩, rfl⟩⟩
    · intro hc19
      change ¬ (x4 = (0 : Int)) at hc19
      exfalso; omega
set_option maxHeartbeats 4000000 in
theorem cm_255_t {X : List (Nat × List Value)} {d : Nat} {h : pm_H} (hd : 1 ≤ d) (I : pw_I h) (c : Int) (hc1 : 0 ≤ c) (hc2 : c ≤ 10) (ar : Int) (har1 : (-2147483648) ≤ ar) (har2 : ar ≤ 2147483647) (hp0 : pw_g h 125 32 ≤ 1099) : pw X d h 255 0 [some (.ref 141), some (pw_i c), some (pw_i ar)] [] (fun h' v => pw_I h' ∧ pw_E [125, 146, 147] h h' ∧ (pt_EM h h' c ar ∧ pw_g h' 125 45 = pw_g h 125 45) ∧ (v = .inl none)) := by
  have E : pm_ent 255 = some (3, 3, 12, 4, pmc_255) := rfl
  have E0 : pw_E [125, 146, 147] h h := pw_E.rf _ _
  refine pw_ld E (pc' := 1) (st' := [.ref 141]) rfl (fun _ => rfl) ?_
  refine pw_getR (b := 162) I E (c := 125) (k := 33) (pc' := 4) rfl rfl rfl rfl rfl rfl rfl ?_
  refine pw_sip E (pc' := 7) rfl rfl (by decide) ?_
  refine pw_ld E (pc' := 8) (st' := [.ref 141, pw_i 4400, .ref 162]) rfl (fun _ => rfl) ?_
  refine pw_getI2 I E (c := 125) (k := 32) (pc' := 11) rfl rfl rfl rfl rfl rfl (fun hf1a hf1b => ?_)
  refine pw_add E (pc' := 12) rfl rfl ?_
  refine pw_ld E (pc' := 13) (st' := [pw_i c, pw_i (4400 + (pw_g h 125 32)), .ref 162]) rfl (fun _ => rfl) ?_
  refine pw_ast0 I E (c := 146) (pc' := 14) rfl rfl rfl (by decide) rfl (by decide) (by omega) (by omega) rfl (by omega) (by omega) (by omega) (by omega) rfl ?_
  intro h2I h2E
  generalize h2w : pw_w h 146 ((4400 + (pw_g h 125 32)).toNat) (pw_i c) = h2 at h2I h2E ⊢
  have h2F := E0.tr (h2E.wk (W' := [125, 146, 147]) (by first | rfl | simp))
  refine pw_ld E (pc' := 15) (st' := [.ref 141]) rfl (fun _ => rfl) ?_
  refine pw_getR (b := 163) h2I E (c := 125) (k := 34) (pc' := 18) rfl rfl rfl rfl rfl rfl rfl ?_
  refine pw_sip E (pc' := 21) rfl rfl (by decide) ?_
  refine pw_ld E (pc' := 22) (st' := [.ref 141, pw_i 4400, .ref 163]) rfl (fun _ => rfl) ?_
  have he4 : pw_g h2 125 32 = pw_g h 125 32 := by rw [← h2w]; exact pw_g_ne (by omega)
  refine pw_getI2 h2I E (c := 125) (k := 32) (pc' := 25) rfl rfl rfl rfl rfl rfl (fun hf3a hf3b => ?_)
  refine pw_add E (pc' := 26) rfl rfl ?_
  refine pw_ld E (pc' := 27) (st' := [pw_i ar, pw_i (4400 + (pw_g h2 125 32)), .ref 163]) rfl (fun _ => rfl) ?_
  refine pw_ast0 h2I E (c := 147) (pc' := 28) rfl rfl rfl (by decide) rfl (by decide) (by omega) (by omega) rfl (by omega) (by omega) (by omega) (by omega) rfl ?_
  intro h5I h5E
  generalize h5w : pw_w h2 147 ((4400 + (pw_g h2 125 32)).toNat) (pw_i ar) = h5 at h5I h5E ⊢
  have h5F := h2F.tr (h5E.wk (W' := [125, 146, 147]) (by first | rfl | simp))
  refine pw_ld E (pc' := 29) (st' := [.ref 141]) rfl (fun _ => rfl) ?_
  refine pw_ld E (pc' := 30) (st' := [.ref 141, .ref 141]) rfl (fun _ => rfl) ?_
  have he7 : pw_g h5 125 32 = pw_g h2 125 32 := by rw [← h5w]; exact pw_g_ne (by omega)
  refine pw_getI2 h5I E (c := 125) (k := 32) (pc' := 33) rfl rfl rfl rfl rfl rfl (fun hf6a hf6b => ?_)
  refine pw_ld E (pc' := 34) (st' := [pw_i 1, pw_i (pw_g h5 125 32), .ref 141]) rfl (fun _ => rfl) ?_
  refine pw_add E (pc' := 35) rfl rfl ?_
  refine pw_putI h5I E (c := 125) (k := 32) (pc' := 38) rfl rfl rfl rfl (by omega) (by omega) (by omega) (by omega) rfl rfl ?_
  intro h8I h8E
  generalize h8w : pw_w h5 125 32 (pw_i ((pw_g h5 125 32) + 1)) = h8 at h8I h8E ⊢
  have h8F := h5F.tr (h8E.wk (W' := [125, 146, 147]) (by first | rfl | simp))
  refine pw_vret E rfl ?_
  have q7 : pw_g h8 125 7 = pw_g h 125 7 := by rw [← h8w, pw_g_ne (by omega), ← h5w, pw_g_ne (by omega), ← h2w, pw_g_ne (by omega)]
  have q8 : pw_g h8 125 8 = pw_g h 125 8 := by rw [← h8w, pw_g_ne (by omega), ← h5w, pw_g_ne (by omega), ← h2w, pw_g_ne (by omega)]
  have q45 : pw_g h8 125 45 = pw_g h 125 45 := by rw [← h8w, pw_g_ne (by omega), ← h5w, pw_g_ne (by omega), ← h2w, pw_g_ne (by omega)]
  have q1 : pw_g h2 125 32 = pw_g h 125 32 := by rw [← h2w]; exact pw_g_ne (by omega)
  have q2 : pw_g h5 125 32 = pw_g h2 125 32 := by rw [← h5w]; exact pw_g_ne (by omega)
  have q3 : pw_g h8 125 32 = pw_g h5 125 32 + 1 := by rw [← h8w]; exact pw_g_eq (c := 125) (k := 32) h5I rfl rfl (by omega) (by omega)
  have q4 : pw_g h2 146 (4400 + pw_g h 125 32).toNat = c := by rw [← h2w]; exact pw_g_eqA I rfl (by omega) (by omega) (by omega)
  have q5 : pw_g h5 147 (4400 + pw_g h2 125 32).toNat = ar := by rw [← h5w]; exact pw_g_eqA h2I rfl (by omega) (by omega) (by omega)
  rw [q1] at q5
  have w2 := h5w
  rw [q1] at w2
  have hm : pt_EM h h8 c ar := ⟨q7, q8, by omega, by rw [← h8w, pw_g_ne (by omega), ← h5w, pw_g_ne (by omega)]; exact q4, by rw [← h8w, pw_g_ne (by omega)]; exact q5, fun j hj => ⟨by rw [← h8w, pw_g_ne (by omega), ← w2, pw_g_ne (by omega), ← h2w]; exact pw_g_ne (fun q => hj q.2.symm), by rw [← h8w, pw_g_ne (by omega), ← w2, pw_g_ne (fun q => hj q.2.symm), ← h2w]; exact pw_g_ne (by omega)⟩⟩
  exact ⟨h8I, h8F, ⟨hm, q45⟩, rfl⟩
end
