section
/-! slips exactly (printed by wip/tool/mslip.py) -/
/-- hands by the class's cell, by the model's two -/
def pw_hc (v t : Int) : Int := (max 0 v / 100) * 10 + (max 0 v % 100) * t
def pw_hm (w g t : Int) : Int := 10 * w + t * g
end
section
/-! other rivers exactly (printed by wip/tool/mothr.py) -/
section Py
variable {X : List (Nat × List Value)} {d : Nat} {h : pm_H} {m pc pc' len na nl own rt : Nat} {C : pm_T (Instr × Nat)} {ls : pm_L} {r : List Value} {Q : pm_H → (Option Value ⊕ Unit) → Prop}
theorem pw_getLM {ix c ci k t a : Nat} {sps : List pw_F} {lo hi : Int} (I : pw_I h) (he : pm_ent m = some (na, nl, own, rt, C)) (hq : pm_get C pc = some (.getfield ix, len)) (hl : pm_get (pm_lnk own) ix = some (0, ci, k, t)) (hs : pw_T[c]? = some (.inr (ci, sps))) (hk : sps[k]? = some (1, lo, hi)) (ha : 16 + c = a) (hc : pc + len = pc') (H : pw X d h m pc' ls (.long (Int64.ofInt (pw_gm h c k)) :: r) Q) : pw X d h m pc ls (.ref a :: r) Q := by
  refine pw_getL I he hq hl hs hk ha hc ?_
  unfold pw_gm at H
  rw [Int64.ofInt_toInt] at H
  exact H
theorem pw_lnegC {a : Int} (he : pm_ent m = some (na, nl, own, rt, C)) (hq : pm_get C pc = some (.lneg, len)) (hc : pc + len = pc') (H : pw X d h m pc' ls (.long (Int64.ofInt (-a)) :: r) Q) : pw X d h m pc ls (.long (Int64.ofInt a) :: r) Q := by
  subst hc
  rw [Int64.ofInt_neg] at H
  refine pw_ld he hq (st' := .long (-Int64.ofInt a) :: r) (pc' := pc + len) (fun ih => ?_) H
  show pm_fn (pc + len) (fun q => ih d h m q ls (.long (-Int64.ofInt a) :: r)) = _
  rw [pm_fn_eq]
end Py

set_option maxHeartbeats 4000000 in
theorem cm_37_o {X : List (Nat × List Value)} {d : Nat} {h : pm_H} (hd : 2 ≤ d) (I : pw_I h) (su : Int) (hsu1 : (-9999) ≤ su) (hsu2 : su ≤ 9999) (n : Int) (hn1 : 1 ≤ n) (hn2 : n ≤ 999) (z : Int) (hz1 : 0 ≤ z) (hz2 : z ≤ 1) : pw X d h 37 0 [some (.ref 116), some (pw_i su), some (pw_i n), some (pw_i z)] [] (fun h' v => pw_I h' ∧ pw_E [100, 101, 102, 103] h h' ∧ ∃ a : Int, v = .inl (some (pw_i a)) ∧ (-1) ≤ a ∧ a ≤ 19 ∧ ((pw_g h 100 3 < 20 ∧ a = pw_g h 100 3 ∧ pw_g h' 100 3 = pw_g h 100 3 + 1 ∧ pw_up h h' 101 (pw_g h 100 3) (su) ∧ pw_up h h' 102 (pw_g h 100 3) (n) ∧ pw_up h h' 103 (pw_g h 100 3) (z)) ∨ (20 ≤ pw_g h 100 3 ∧ a = -1 ∧ pw_g h' 100 3 = pw_g h 100 3 ∧ pw_sm h h' 101 ∧ pw_sm h h' 102 ∧ pw_sm h h' 103))) := by
  have E : pm_ent 37 = some (4, 4, 4, 0, pmc_37) := rfl
  have E0 : pw_E [100, 101, 102, 103] h h := pw_E.rf _ _
  refine pw_ld E (pc' := 1) (st' := [.ref 116]) rfl (fun _ => rfl) ?_
  obtain ⟨f1l, f1h, -⟩ := pw_obj (c := 100) I rfl
  refine pw_call (m' := 36) (As := [.ref 116]) (rest := []) (ls'' := [some (.ref 116)]) (Nat.le_trans (by decide) hd) E rfl (fun _ => pw_iV rfl rfl rfl rfl (pw_cellI f1h rfl)) (rfl : pm_ent 36 = some (1, 1, 4, 1, pmc_36)) rfl rfl (cm_36 (pw_dp hd (by decide)) I ) ?_
  rintro u3 v2 ⟨rfl, x4, rfl, hx4a, hx4b, hx4r⟩
  refine ⟨_, rfl, ?_⟩
  show pw X d h 37 4 [some (.ref 116), some (pw_i su), some (pw_i n), some (pw_i z)] [pw_i x4] _
  change (x4 = 1 ∧ 20 ≤ pw_g h 100 3) ∨ (x4 = 0 ∧ pw_g h 100 3 < 20) at hx4r
  rcases (by omega : x4 = 1 ∨ x4 = 0) with hb5 | hb5
  · skip
    refine pw_if E (pc' := 9) rfl (by decide) (by omega) (by omega) ?_ ?_
    · intro hc6
      change x4 = (0 : Int) at hc6
      exfalso; omega
    · intro hc7
      change ¬ (x4 = (0 : Int)) at hc7
      refine pw_ld E (pc' := 8) (st' := [pw_i ((-1))]) rfl (fun _ => rfl) ?_
      refine pw_iret E rfl ?_
      exact ⟨I, E0, ⟨_, rfl, by omega, by omega, Or.inr ⟨by omega, rfl, rfl, fun _ => rfl, fun _ => rfl, fun _ => rfl⟩⟩⟩
  · skip
    refine pw_if E (pc' := 9) rfl (by decide) (by omega) (by omega) ?_ ?_
    · intro hc9
      change x4 = (0 : Int) at hc9
      refine pw_ld E (pc' := 10) (st' := [.ref 116]) rfl (fun _ => rfl) ?_
      refine pw_getR (b := 117) I E (c := 100) (k := 0) (pc' := 13) rfl rfl rfl rfl rfl rfl rfl ?_
      refine pw_ld E (pc' := 14) (st' := [.ref 116, .ref 117]) rfl (fun _ => rfl) ?_
      refine pw_getI2 I E (c := 100) (k := 3) (pc' := 17) rfl rfl rfl rfl rfl rfl (fun hf10a hf10b => ?_)
      refine pw_ld E (pc' := 18) (st' := [pw_i su, pw_i (pw_g h 100 3), .ref 117]) rfl (fun _ => rfl) ?_
      refine pw_ast0 I E (c := 101) (pc' := 19) rfl rfl rfl (by decide) rfl (by decide) (by omega) (by omega) rfl (by omega) (by omega) (by omega) (by omega) rfl ?_
      intro h11I h11E
      generalize h11w : pw_w h 101 ((pw_g h 100 3).toNat) (pw_i su) = h11 at h11I h11E ⊢
      have h11F := E0.tr (h11E.wk (W' := [100, 101, 102, 103]) (by first | rfl | simp))
      refine pw_ld E (pc' := 20) (st' := [.ref 116]) rfl (fun _ => rfl) ?_
      refine pw_getR (b := 118) h11I E (c := 100) (k := 1) (pc' := 23) rfl rfl rfl rfl rfl rfl rfl ?_
      refine pw_ld E (pc' := 24) (st' := [.ref 116, .ref 118]) rfl (fun _ => rfl) ?_
      have he13 : pw_g h11 100 3 = pw_g h 100 3 := by rw [← h11w]; exact pw_g_ne (by omega)
      refine pw_getI2 h11I E (c := 100) (k := 3) (pc' := 27) rfl rfl rfl rfl rfl rfl (fun hf12a hf12b => ?_)
      refine pw_ld E (pc' := 28) (st' := [pw_i n, pw_i (pw_g h11 100 3), .ref 118]) rfl (fun _ => rfl) ?_
      refine pw_ast0 h11I E (c := 102) (pc' := 29) rfl rfl rfl (by decide) rfl (by decide) (by omega) (by omega) rfl (by omega) (by omega) (by omega) (by omega) rfl ?_
      intro h14I h14E
      generalize h14w : pw_w h11 102 ((pw_g h11 100 3).toNat) (pw_i n) = h14 at h14I h14E ⊢
      have h14F := h11F.tr (h14E.wk (W' := [100, 101, 102, 103]) (by first | rfl | simp))
      refine pw_ld E (pc' := 30) (st' := [.ref 116]) rfl (fun _ => rfl) ?_
      refine pw_getR (b := 119) h14I E (c := 100) (k := 2) (pc' := 33) rfl rfl rfl rfl rfl rfl rfl ?_
      refine pw_ld E (pc' := 34) (st' := [.ref 116, .ref 119]) rfl (fun _ => rfl) ?_
      have he16 : pw_g h14 100 3 = pw_g h11 100 3 := by rw [← h14w]; exact pw_g_ne (by omega)
      refine pw_getI2 h14I E (c := 100) (k := 3) (pc' := 37) rfl rfl rfl rfl rfl rfl (fun hf15a hf15b => ?_)
      refine pw_ld E (pc' := 38) (st' := [pw_i z, pw_i (pw_g h14 100 3), .ref 119]) rfl (fun _ => rfl) ?_
      refine pw_ast0 h14I E (c := 103) (pc' := 39) rfl rfl rfl (by decide) rfl (by decide) (by omega) (by omega) (pw_b1 (by omega) (by omega)) (by omega) (by omega) (by omega) (by omega) rfl ?_
      intro h17I h17E
      generalize h17w : pw_w h14 103 ((pw_g h14 100 3).toNat) (pw_i z) = h17 at h17I h17E ⊢
      have h17F := h14F.tr (h17E.wk (W' := [100, 101, 102, 103]) (by first | rfl | simp))
      refine pw_ld E (pc' := 40) (st' := [.ref 116]) rfl (fun _ => rfl) ?_
      refine pw_ld E (pc' := 41) (st' := [.ref 116, .ref 116]) rfl (fun _ => rfl) ?_
      have he19 : pw_g h17 100 3 = pw_g h14 100 3 := by rw [← h17w]; exact pw_g_ne (by omega)
      refine pw_getI2 h17I E (c := 100) (k := 3) (pc' := 44) rfl rfl rfl rfl rfl rfl (fun hf18a hf18b => ?_)
      refine pw_ld E (pc' := 45) (st' := [pw_i 1, pw_i (pw_g h17 100 3), .ref 116]) rfl (fun _ => rfl) ?_
      refine pw_add E (pc' := 46) rfl rfl ?_
      refine pw_putI h17I E (c := 100) (k := 3) (pc' := 49) rfl rfl rfl rfl (by omega) (by omega) (by omega) (by omega) rfl rfl ?_
      intro h20I h20E
      generalize h20w : pw_w h17 100 3 (pw_i ((pw_g h17 100 3) + 1)) = h20 at h20I h20E ⊢
      have h20F := h17F.tr (h20E.wk (W' := [100, 101, 102, 103]) (by first | rfl | simp))
      refine pw_ld E (pc' := 50) (st' := [.ref 116]) rfl (fun _ => rfl) ?_
      have he22 : pw_g h20 100 3 = (pw_g h17 100 3) + 1 := by rw [← h20w]; exact pw_g_eq (c := 100) (k := 3) h17I rfl rfl (by omega) (by omega)
      refine pw_getI2 h20I E (c := 100) (k := 3) (pc' := 53) rfl rfl rfl rfl rfl rfl (fun hf21a hf21b => ?_)
      refine pw_ld E (pc' := 54) (st' := [pw_i 1, pw_i (pw_g h20 100 3)]) rfl (fun _ => rfl) ?_
      refine pw_sub E (pc' := 55) rfl rfl ?_
      refine pw_iret E rfl ?_
      have hl24 : ∀ j : Nat, pw_g h20 101 j = pw_g h11 101 j := fun j => (((by rw [← h20w]; exact pw_g_ne (by omega) : pw_g h20 101 j = pw_g h17 101 j)).trans (by rw [← h17w]; exact pw_g_ne (by omega) : pw_g h17 101 j = pw_g h14 101 j)).trans (by rw [← h14w]; exact pw_g_ne (by omega) : pw_g h14 101 j = pw_g h11 101 j)
      have hl25 : ∀ j : Nat, pw_g h 101 j = pw_g h 101 j := fun j => rfl
      have hu23i : (pw_g h 100 3).toNat = (pw_g h 100 3).toNat := by omega
      have hu23a : pw_g h11 101 ((pw_g h 100 3).toNat) = su := by rw [← h11w]; exact pw_g_eqA I rfl (by omega) (by omega) (by omega)
      have hu23b : ∀ j : Nat, j ≠ (pw_g h 100 3).toNat → pw_g h11 101 j = pw_g h 101 j := fun j hj => by rw [← h11w]; exact pw_g_ne (fun q => hj q.2.symm)
      rw [hu23i] at hu23a hu23b
      have hl27 : ∀ j : Nat, pw_g h20 102 j = pw_g h14 102 j := fun j => ((by rw [← h20w]; exact pw_g_ne (by omega) : pw_g h20 102 j = pw_g h17 102 j)).trans (by rw [← h17w]; exact pw_g_ne (by omega) : pw_g h17 102 j = pw_g h14 102 j)
      have hl28 : ∀ j : Nat, pw_g h11 102 j = pw_g h 102 j := fun j => (by rw [← h11w]; exact pw_g_ne (by omega) : pw_g h11 102 j = pw_g h 102 j)
      have hu26i : (pw_g h11 100 3).toNat = (pw_g h 100 3).toNat := by omega
      have hu26a : pw_g h14 102 ((pw_g h11 100 3).toNat) = n := by rw [← h14w]; exact pw_g_eqA h11I rfl (by omega) (by omega) (by omega)
      have hu26b : ∀ j : Nat, j ≠ (pw_g h11 100 3).toNat → pw_g h14 102 j = pw_g h11 102 j := fun j hj => by rw [← h14w]; exact pw_g_ne (fun q => hj q.2.symm)
      rw [hu26i] at hu26a hu26b
      have hl30 : ∀ j : Nat, pw_g h20 103 j = pw_g h17 103 j := fun j => (by rw [← h20w]; exact pw_g_ne (by omega) : pw_g h20 103 j = pw_g h17 103 j)
      have hl31 : ∀ j : Nat, pw_g h14 103 j = pw_g h 103 j := fun j => ((by rw [← h14w]; exact pw_g_ne (by omega) : pw_g h14 103 j = pw_g h11 103 j)).trans (by rw [← h11w]; exact pw_g_ne (by omega) : pw_g h11 103 j = pw_g h 103 j)
      have hu29i : (pw_g h14 100 3).toNat = (pw_g h 100 3).toNat := by omega
      have hu29a : pw_g h17 103 ((pw_g h14 100 3).toNat) = z := by rw [← h17w]; exact pw_g_eqA h14I rfl (by omega) (by omega) (by omega)
      have hu29b : ∀ j : Nat, j ≠ (pw_g h14 100 3).toNat → pw_g h17 103 j = pw_g h14 103 j := fun j hj => by rw [← h17w]; exact pw_g_ne (fun q => hj q.2.symm)
      rw [hu29i] at hu29a hu29b
      exact ⟨h20I, h20F, ⟨_, rfl, by omega, by omega, Or.inl ⟨by omega, by omega, by omega, ⟨(hl24 _).trans hu23a, fun j hj => (hl24 j).trans ((hu23b j hj).trans (hl25 j))⟩, ⟨(hl27 _).trans hu26a, fun j hj => (hl27 j).trans ((hu26b j hj).trans (hl28 j))⟩, ⟨(hl30 _).trans hu29a, fun j hj => (hl30 j).trans ((hu29b j hj).trans (hl31 j))⟩⟩⟩⟩
    · intro hc32
      change ¬ (x4 = (0 : Int)) at hc32
      exfalso; omega
set_option maxHeartbeats 4000000 in
theorem cm_151_o {X : List (Nat × List Value)} {d : Nat} {h : pm_H} (hd : 3 ≤ d) (I : pw_I h) (su : Int) (hsu1 : (-2147483648) ≤ su) (hsu2 : su ≤ 2147483647) (n : Int) (hn1 : (-2147483648) ≤ n) (hn2 : n ≤ 2147483647) (z : Int) (hz1 : 0 ≤ z) (hz2 : z ≤ 1) : pw X d h 151 0 [some (.ref 16), some (pw_i su), some (pw_i n), some (pw_i z)] [] (fun h' v => pw_I h' ∧ pw_E [100, 101, 102, 103] h h' ∧ ∃ a : Int, v = .inl (some (pw_i a)) ∧ (-2147483648) ≤ a ∧ a ≤ 2147483647 ∧ ((((-9999) ≤ su ∧ su ≤ 9999 ∧ 1 ≤ n ∧ n ≤ 999 ∧ pw_g h 100 3 < 20) ∧ a = pw_g h 100 3 ∧ pw_g h' 100 3 = pw_g h 100 3 + 1 ∧ pw_up h h' 101 (pw_g h 100 3) (su) ∧ pw_up h h' 102 (pw_g h 100 3) (n) ∧ pw_up h h' 103 (pw_g h 100 3) (z)) ∨ (¬ ((-9999) ≤ su ∧ su ≤ 9999 ∧ 1 ≤ n ∧ n ≤ 999 ∧ pw_g h 100 3 < 20) ∧ a = -1 ∧ pw_g h' 100 3 = pw_g h 100 3 ∧ pw_sm h h' 101 ∧ pw_sm h h' 102 ∧ pw_sm h h' 103))) := by
  have E : pm_ent 151 = some (4, 4, 11, 0, pmc_151) := rfl
  have E0 : pw_E [100, 101, 102, 103] h h := pw_E.rf _ _
  refine pw_ld E (pc' := 1) (st' := [pw_i su]) rfl (fun _ => rfl) ?_
  refine pw_sip E (pc' := 4) rfl rfl (by decide) ?_
  refine pw_sip E (pc' := 7) rfl rfl (by decide) ?_
  refine pw_call (m' := 121) (As := [pw_i su, pw_i ((-9999)), pw_i 9999]) (rest := []) (ls'' := [some (pw_i su), some (pw_i ((-9999))), some (pw_i 9999)]) (Nat.le_trans (by decide) hd) E rfl (fun _ => pw_iS rfl rfl rfl) (rfl : pm_ent 121 = some (3, 3, 11, 1, pmc_121)) rfl rfl (cm_121 (pw_dp hd (by decide)) I (su) (by omega) (by omega) ((-9999)) (by omega) (by omega) (9999) (by omega) (by omega)) ?_
  rintro u2 v1 ⟨rfl, x3, rfl, hx3a, hx3b, hx3r⟩
  refine ⟨_, rfl, ?_⟩
  show pw X d h 151 10 [some (.ref 16), some (pw_i su), some (pw_i n), some (pw_i z)] [pw_i x3] _
  change (x3 = 1 ∧ (-9999) ≤ su ∧ su ≤ 9999) ∨ (x3 = 0 ∧ ¬ ((-9999) ≤ su ∧ su ≤ 9999)) at hx3r
  rcases (by omega : x3 = 1 ∨ x3 = 0) with hb4 | hb4
  · skip
    refine pw_if E (pc' := 34) rfl (by decide) (by omega) (by omega) ?_ ?_
    · intro hc5
      change x3 = (0 : Int) at hc5
      exfalso; omega
    · intro hc6
      change ¬ (x3 = (0 : Int)) at hc6
      refine pw_ld E (pc' := 14) (st' := [pw_i n]) rfl (fun _ => rfl) ?_
      refine pw_ld E (pc' := 15) (st' := [pw_i 1, pw_i n]) rfl (fun _ => rfl) ?_
      refine pw_sip E (pc' := 18) rfl rfl (by decide) ?_
      refine pw_call (m' := 121) (As := [pw_i n, pw_i 1, pw_i 999]) (rest := []) (ls'' := [some (pw_i n), some (pw_i 1), some (pw_i 999)]) (Nat.le_trans (by decide) hd) E rfl (fun _ => pw_iS rfl rfl rfl) (rfl : pm_ent 121 = some (3, 3, 11, 1, pmc_121)) rfl rfl (cm_121 (pw_dp hd (by decide)) I (n) (by omega) (by omega) (1) (by omega) (by omega) (999) (by omega) (by omega)) ?_
      rintro u8 v7 ⟨rfl, x9, rfl, hx9a, hx9b, hx9r⟩
      refine ⟨_, rfl, ?_⟩
      show pw X d h 151 21 [some (.ref 16), some (pw_i su), some (pw_i n), some (pw_i z)] [pw_i x9] _
      change (x9 = 1 ∧ 1 ≤ n ∧ n ≤ 999) ∨ (x9 = 0 ∧ ¬ (1 ≤ n ∧ n ≤ 999)) at hx9r
      rcases (by omega : x9 = 1 ∨ x9 = 0) with hb10 | hb10
      · skip
        refine pw_if E (pc' := 34) rfl (by decide) (by omega) (by omega) ?_ ?_
        · intro hc11
          change x9 = (0 : Int) at hc11
          exfalso; omega
        · intro hc12
          change ¬ (x9 = (0 : Int)) at hc12
          refine pw_ld E (pc' := 25) (st' := [.ref 16]) rfl (fun _ => rfl) ?_
          refine pw_getR (b := 116) I E (c := 0) (k := 18) (pc' := 28) rfl rfl rfl rfl rfl rfl rfl ?_
          obtain ⟨f13l, f13h, -⟩ := pw_obj (c := 100) I rfl
          refine pw_call (m' := 36) (As := [.ref 116]) (rest := []) (ls'' := [some (.ref 116)]) (Nat.le_trans (by decide) hd) E rfl (fun _ => pw_iV rfl rfl rfl rfl (pw_cellI f13h rfl)) (rfl : pm_ent 36 = some (1, 1, 4, 1, pmc_36)) rfl rfl (cm_36 (pw_dp hd (by decide)) I ) ?_
          rintro u15 v14 ⟨rfl, x16, rfl, hx16a, hx16b, hx16r⟩
          refine ⟨_, rfl, ?_⟩
          show pw X d h 151 31 [some (.ref 16), some (pw_i su), some (pw_i n), some (pw_i z)] [pw_i x16] _
          change (x16 = 1 ∧ 20 ≤ pw_g h 100 3) ∨ (x16 = 0 ∧ pw_g h 100 3 < 20) at hx16r
          rcases (by omega : x16 = 1 ∨ x16 = 0) with hb17 | hb17
          · skip
            refine pw_if E (pc' := 36) rfl (by decide) (by omega) (by omega) ?_ ?_
            · intro hc18
              change x16 = (0 : Int) at hc18
              exfalso; omega
            · intro hc19
              change ¬ (x16 = (0 : Int)) at hc19
              refine pw_ld E (pc' := 35) (st' := [pw_i ((-1))]) rfl (fun _ => rfl) ?_
              refine pw_iret E rfl ?_
              exact ⟨I, E0, ⟨_, rfl, by omega, by omega, Or.inr ⟨by omega, rfl, rfl, fun _ => rfl, fun _ => rfl, fun _ => rfl⟩⟩⟩
          · skip
            refine pw_if E (pc' := 36) rfl (by decide) (by omega) (by omega) ?_ ?_
            · intro hc21
              change x16 = (0 : Int) at hc21
              refine pw_ld E (pc' := 37) (st' := [.ref 16]) rfl (fun _ => rfl) ?_
              refine pw_getR (b := 116) I E (c := 0) (k := 18) (pc' := 40) rfl rfl rfl rfl rfl rfl rfl ?_
              refine pw_ld E (pc' := 41) (st' := [pw_i su, .ref 116]) rfl (fun _ => rfl) ?_
              refine pw_ld E (pc' := 42) (st' := [pw_i n, pw_i su, .ref 116]) rfl (fun _ => rfl) ?_
              refine pw_ld E (pc' := 43) (st' := [pw_i z, pw_i n, pw_i su, .ref 116]) rfl (fun _ => rfl) ?_
              obtain ⟨f22l, f22h, -⟩ := pw_obj (c := 100) I rfl
              refine pw_call (m' := 37) (As := [.ref 116, pw_i su, pw_i n, pw_i z]) (rest := []) (ls'' := [some (.ref 116), some (pw_i su), some (pw_i n), some (pw_i z)]) (Nat.le_trans (by decide) hd) E rfl (fun _ => pw_iV rfl rfl rfl rfl (pw_cellI f22h rfl)) (rfl : pm_ent 37 = some (4, 4, 4, 0, pmc_37)) rfl rfl (cm_37_o (pw_dp hd (by decide)) I (su) (by omega) (by omega) (n) (by omega) (by omega) (z) (by omega) (by omega)) ?_
              rintro h23 v24 ⟨h23I, h23E, x25, rfl, hx25a, hx25b, hx25r⟩
              refine ⟨_, rfl, ?_⟩
              have h23F := E0.tr (h23E.wk (W' := [100, 101, 102, 103]) (by first | rfl | simp))
              show pw X d h23 151 46 [some (.ref 16), some (pw_i su), some (pw_i n), some (pw_i z)] [pw_i x25] _
              change (pw_g h 100 3 < 20 ∧ x25 = pw_g h 100 3 ∧ pw_g h23 100 3 = pw_g h 100 3 + 1 ∧ pw_up h h23 101 (pw_g h 100 3) (su) ∧ pw_up h h23 102 (pw_g h 100 3) (n) ∧ pw_up h h23 103 (pw_g h 100 3) (z)) ∨ (20 ≤ pw_g h 100 3 ∧ x25 = -1 ∧ pw_g h23 100 3 = pw_g h 100 3 ∧ pw_sm h h23 101 ∧ pw_sm h h23 102 ∧ pw_sm h h23 103) at hx25r
              refine pw_iret E rfl ?_
              exact ⟨h23I, h23F, ⟨_, rfl, by omega, by omega, Or.inl ⟨by omega, (hx25r.resolve_right (fun e => by omega)).2⟩⟩⟩
            · intro hc26
              change ¬ (x16 = (0 : Int)) at hc26
              exfalso; omega
      · skip
        refine pw_if E (pc' := 34) rfl (by decide) (by omega) (by omega) ?_ ?_
        · intro hc28
          change x9 = (0 : Int) at hc28
          refine pw_ld E (pc' := 35) (st' := [pw_i ((-1))]) rfl (fun _ => rfl) ?_
          refine pw_iret E rfl ?_
          exact ⟨I, E0, ⟨_, rfl, by omega, by omega, Or.inr ⟨by omega, rfl, rfl, fun _ => rfl, fun _ => rfl, fun _ => rfl⟩⟩⟩
        · intro hc29
          change ¬ (x9 = (0 : Int)) at hc29
          exfalso; omega
  · skip
    refine pw_if E (pc' := 34) rfl (by decide) (by omega) (by omega) ?_ ?_
    · intro hc31
      change x3 = (0 : Int) at hc31
      refine pw_ld E (pc' := 35) (st' := [pw_i ((-1))]) rfl (fun _ => rfl) ?_
      refine pw_iret E rfl ?_
      exact ⟨I, E0, ⟨_, rfl, by omega, by omega, Or.inr ⟨by omega, rfl, rfl, fun _ => rfl, fun _ => rfl, fun _ => rfl⟩⟩⟩
    · intro hc32
      change ¬ (x3 = (0 : Int)) at hc32
      exfalso; omega
set_option maxHeartbeats 4000000 in
theorem cm_273_o {X : List (Nat × List Value)} {d : Nat} {h : pm_H} (hd : 2 ≤ d) (I : pw_I h) (su : Int) (hsu1 : (-2147483648) ≤ su) (hsu2 : su ≤ 2147483647) (n : Int) (hn1 : (-2147483648) ≤ n) (hn2 : n ≤ 2147483647) (z : Int) (hz1 : 0 ≤ z) (hz2 : z ≤ 1) : pw X d h 273 0 [some (.ref 141), some (pw_i su), some (pw_i n), some (pw_i z)] [] (fun h' v => pw_I h' ∧ pw_E [125, 154, 155, 156, 1041] h h' ∧ ∃ a : Int, v = .inl (some (pw_i a)) ∧ (-2147483648) ≤ a ∧ a ≤ 2147483647 ∧ ((((-9999) ≤ su ∧ su ≤ 9999 ∧ 1 ≤ n ∧ n ≤ 999 ∧ pw_g h 125 41 < 20) ∧ a = pw_g h 125 41 ∧ pw_g h' 125 41 = pw_g h 125 41 + 1 ∧ pw_up h h' 154 (pw_g h 125 41) (su) ∧ pw_up h h' 155 (pw_g h 125 41) (n) ∧ pw_up h h' 156 (pw_g h 125 41) (z)) ∨ (¬ ((-9999) ≤ su ∧ su ≤ 9999 ∧ 1 ≤ n ∧ n ≤ 999 ∧ pw_g h 125 41 < 20) ∧ a = -1 ∧ pw_g h' 125 41 = pw_g h 125 41 ∧ pw_sm h h' 154 ∧ pw_sm h h' 155 ∧ pw_sm h h' 156))) := by
  have E : pm_ent 273 = some (4, 4, 12, 0, pmc_273) := rfl
  have E0 : pw_E [125, 154, 155, 156, 1041] h h := pw_E.rf _ _
  refine pw_ld E (pc' := 1) (st' := [.ref 141]) rfl (fun _ => rfl) ?_
  refine pw_ld E (pc' := 2) (st' := [pw_i 0, .ref 141]) rfl (fun _ => rfl) ?_
  refine pw_putI I E (c := 125) (k := 0) (pc' := 5) rfl rfl rfl rfl (by omega) (by omega) (by omega) (by omega) rfl rfl ?_
  intro h1I h1E
  generalize h1w : pw_w h 125 0 (pw_i 0) = h1 at h1I h1E ⊢
  have h1F := E0.tr (h1E.wk (W' := [125, 154, 155, 156, 1041]) (by first | rfl | simp))
  refine pw_ld E (pc' := 6) (st' := [pw_i su]) rfl (fun _ => rfl) ?_
  refine pw_sip E (pc' := 9) rfl rfl (by decide) ?_
  refine pw_sip E (pc' := 12) rfl rfl (by decide) ?_
  refine pw_call (m' := 202) (As := [pw_i su, pw_i ((-9999)), pw_i 9999]) (rest := []) (ls'' := [some (pw_i su), some (pw_i ((-9999))), some (pw_i 9999)]) (Nat.le_trans (by decide) hd) E rfl (fun _ => pw_iS rfl rfl rfl) (rfl : pm_ent 202 = some (3, 3, 12, 1, pmc_202)) rfl rfl (cm_202 (pw_dp hd (by decide)) h1I (su) (by omega) (by omega) ((-9999)) (by omega) (by omega) (9999) (by omega) (by omega)) ?_
  rintro u3 v2 ⟨rfl, x4, rfl, hx4a, hx4b, hx4r⟩
  refine ⟨_, rfl, ?_⟩
  show pw X d h1 273 15 [some (.ref 141), some (pw_i su), some (pw_i n), some (pw_i z)] [pw_i x4] _
  change (x4 = 1 ∧ (-9999) ≤ su ∧ su ≤ 9999) ∨ (x4 = 0 ∧ ¬ ((-9999) ≤ su ∧ su ≤ 9999)) at hx4r
  rcases (by omega : x4 = 1 ∨ x4 = 0) with hb5 | hb5
  · skip
    refine pw_if E (pc' := 38) rfl (by decide) (by omega) (by omega) ?_ ?_
    · intro hc6
      change x4 = (0 : Int) at hc6
      exfalso; omega
    · intro hc7
      change ¬ (x4 = (0 : Int)) at hc7
      refine pw_ld E (pc' := 19) (st' := [pw_i n]) rfl (fun _ => rfl) ?_
      refine pw_ld E (pc' := 20) (st' := [pw_i 1, pw_i n]) rfl (fun _ => rfl) ?_
      refine pw_sip E (pc' := 23) rfl rfl (by decide) ?_
      refine pw_call (m' := 202) (As := [pw_i n, pw_i 1, pw_i 999]) (rest := []) (ls'' := [some (pw_i n), some (pw_i 1), some (pw_i 999)]) (Nat.le_trans (by decide) hd) E rfl (fun _ => pw_iS rfl rfl rfl) (rfl : pm_ent 202 = some (3, 3, 12, 1, pmc_202)) rfl rfl (cm_202 (pw_dp hd (by decide)) h1I (n) (by omega) (by omega) (1) (by omega) (by omega) (999) (by omega) (by omega)) ?_
      rintro u9 v8 ⟨rfl, x10, rfl, hx10a, hx10b, hx10r⟩
      refine ⟨_, rfl, ?_⟩
      show pw X d h1 273 26 [some (.ref 141), some (pw_i su), some (pw_i n), some (pw_i z)] [pw_i x10] _
      change (x10 = 1 ∧ 1 ≤ n ∧ n ≤ 999) ∨ (x10 = 0 ∧ ¬ (1 ≤ n ∧ n ≤ 999)) at hx10r
      rcases (by omega : x10 = 1 ∨ x10 = 0) with hb11 | hb11
      · skip
        refine pw_if E (pc' := 38) rfl (by decide) (by omega) (by omega) ?_ ?_
        · intro hc12
          change x10 = (0 : Int) at hc12
          exfalso; omega
        · intro hc13
          change ¬ (x10 = (0 : Int)) at hc13
          refine pw_ld E (pc' := 30) (st' := [.ref 141]) rfl (fun _ => rfl) ?_
          have he15 : pw_g h1 125 41 = pw_g h 125 41 := by rw [← h1w]; exact pw_g_ne (by omega)
          refine pw_getI2 h1I E (c := 125) (k := 41) (pc' := 33) rfl rfl rfl rfl rfl rfl (fun hf14a hf14b => ?_)
          refine pw_bip E (pc' := 35) rfl rfl (by decide) ?_
          refine pw_if2 E (pc' := 40) rfl (by decide) (by omega) (by omega) (by decide) (by decide) ?_ ?_
          · intro hc16
            change pw_g h1 125 41 ≠ (20 : Int) at hc16
            refine pw_ld E (pc' := 41) (st' := [.ref 141]) rfl (fun _ => rfl) ?_
            refine pw_getR (b := 170) h1I E (c := 125) (k := 42) (pc' := 44) rfl rfl rfl rfl rfl rfl rfl ?_
            refine pw_ld E (pc' := 45) (st' := [.ref 141, .ref 170]) rfl (fun _ => rfl) ?_
            refine pw_getI2 h1I E (c := 125) (k := 41) (pc' := 48) rfl rfl rfl rfl rfl rfl (fun hf17a hf17b => ?_)
            refine pw_ld E (pc' := 49) (st' := [pw_i su, pw_i (pw_g h1 125 41), .ref 170]) rfl (fun _ => rfl) ?_
            refine pw_ast0 h1I E (c := 154) (pc' := 50) rfl rfl rfl (by decide) rfl (by decide) (by omega) (by omega) rfl (by omega) (by omega) (by omega) (by omega) rfl ?_
            intro h18I h18E
            generalize h18w : pw_w h1 154 ((pw_g h1 125 41).toNat) (pw_i su) = h18 at h18I h18E ⊢
            have h18F := h1F.tr (h18E.wk (W' := [125, 154, 155, 156, 1041]) (by first | rfl | simp))
            refine pw_ld E (pc' := 51) (st' := [.ref 141]) rfl (fun _ => rfl) ?_
            refine pw_getR (b := 171) h18I E (c := 125) (k := 43) (pc' := 54) rfl rfl rfl rfl rfl rfl rfl ?_
            refine pw_ld E (pc' := 55) (st' := [.ref 141, .ref 171]) rfl (fun _ => rfl) ?_
            have he20 : pw_g h18 125 41 = pw_g h1 125 41 := by rw [← h18w]; exact pw_g_ne (by omega)
            refine pw_getI2 h18I E (c := 125) (k := 41) (pc' := 58) rfl rfl rfl rfl rfl rfl (fun hf19a hf19b => ?_)
            refine pw_ld E (pc' := 59) (st' := [pw_i n, pw_i (pw_g h18 125 41), .ref 171]) rfl (fun _ => rfl) ?_
            refine pw_ast0 h18I E (c := 155) (pc' := 60) rfl rfl rfl (by decide) rfl (by decide) (by omega) (by omega) rfl (by omega) (by omega) (by omega) (by omega) rfl ?_
            intro h21I h21E
            generalize h21w : pw_w h18 155 ((pw_g h18 125 41).toNat) (pw_i n) = h21 at h21I h21E ⊢
            have h21F := h18F.tr (h21E.wk (W' := [125, 154, 155, 156, 1041]) (by first | rfl | simp))
            refine pw_ld E (pc' := 61) (st' := [.ref 141]) rfl (fun _ => rfl) ?_
            refine pw_getR (b := 172) h21I E (c := 125) (k := 44) (pc' := 64) rfl rfl rfl rfl rfl rfl rfl ?_
            refine pw_ld E (pc' := 65) (st' := [.ref 141, .ref 172]) rfl (fun _ => rfl) ?_
            have he23 : pw_g h21 125 41 = pw_g h18 125 41 := by rw [← h21w]; exact pw_g_ne (by omega)
            refine pw_getI2 h21I E (c := 125) (k := 41) (pc' := 68) rfl rfl rfl rfl rfl rfl (fun hf22a hf22b => ?_)
            refine pw_ld E (pc' := 69) (st' := [pw_i z, pw_i (pw_g h21 125 41), .ref 172]) rfl (fun _ => rfl) ?_
            refine pw_ast0 h21I E (c := 156) (pc' := 70) rfl rfl rfl (by decide) rfl (by decide) (by omega) (by omega) (pw_b1 (by omega) (by omega)) (by omega) (by omega) (by omega) (by omega) rfl ?_
            intro h24I h24E
            generalize h24w : pw_w h21 156 ((pw_g h21 125 41).toNat) (pw_i z) = h24 at h24I h24E ⊢
            have h24F := h21F.tr (h24E.wk (W' := [125, 154, 155, 156, 1041]) (by first | rfl | simp))
            refine pw_ld E (pc' := 71) (st' := [.ref 141]) rfl (fun _ => rfl) ?_
            refine pw_ld E (pc' := 72) (st' := [.ref 141, .ref 141]) rfl (fun _ => rfl) ?_
            have he26 : pw_g h24 125 41 = pw_g h21 125 41 := by rw [← h24w]; exact pw_g_ne (by omega)
            refine pw_getI2 h24I E (c := 125) (k := 41) (pc' := 75) rfl rfl rfl rfl rfl rfl (fun hf25a hf25b => ?_)
            refine pw_ld E (pc' := 76) (st' := [pw_i 1, pw_i (pw_g h24 125 41), .ref 141]) rfl (fun _ => rfl) ?_
            refine pw_add E (pc' := 77) rfl rfl ?_
            refine pw_putP h24I E (k := 41) (pc' := 80) rfl rfl rfl rfl (by omega) (by omega) (by omega) (by omega) rfl rfl ?_
            intro h27I h27E
            generalize h27w : pw_w h24 125 41 (pw_i ((pw_g h24 125 41) + 1)) = h27 at h27I h27E ⊢
            have h27F := h24F.tr (h27E.wk (W' := [125, 154, 155, 156, 1041]) (by first | rfl | simp))
            refine pw_ld E (pc' := 81) (st' := [.ref 141]) rfl (fun _ => rfl) ?_
            have he29 : pw_g h27 125 41 = (pw_g h24 125 41) + 1 := by rw [← h27w]; exact pw_g_eq (c := 125) (k := 41) h24I rfl rfl (by omega) (by omega)
            refine pw_getI2 h27I E (c := 125) (k := 41) (pc' := 84) rfl rfl rfl rfl rfl rfl (fun hf28a hf28b => ?_)
            refine pw_ld E (pc' := 85) (st' := [pw_i 1, pw_i (pw_g h27 125 41)]) rfl (fun _ => rfl) ?_
            refine pw_sub E (pc' := 86) rfl rfl ?_
            refine pw_iret E rfl ?_
            have hl31 : ∀ j : Nat, pw_g h27 154 j = pw_g h18 154 j := fun j => (((by rw [← h27w]; exact pw_g_ne (by omega) : pw_g h27 154 j = pw_g h24 154 j)).trans (by rw [← h24w]; exact pw_g_ne (by omega) : pw_g h24 154 j = pw_g h21 154 j)).trans (by rw [← h21w]; exact pw_g_ne (by omega) : pw_g h21 154 j = pw_g h18 154 j)
            have hl32 : ∀ j : Nat, pw_g h1 154 j = pw_g h 154 j := fun j => (by rw [← h1w]; exact pw_g_ne (by omega) : pw_g h1 154 j = pw_g h 154 j)
            have hu30i : (pw_g h1 125 41).toNat = (pw_g h 125 41).toNat := by omega
            have hu30a : pw_g h18 154 ((pw_g h1 125 41).toNat) = su := by rw [← h18w]; exact pw_g_eqA h1I rfl (by omega) (by omega) (by omega)
            have hu30b : ∀ j : Nat, j ≠ (pw_g h1 125 41).toNat → pw_g h18 154 j = pw_g h1 154 j := fun j hj => by rw [← h18w]; exact pw_g_ne (fun q => hj q.2.symm)
            rw [hu30i] at hu30a hu30b
            have hl34 : ∀ j : Nat, pw_g h27 155 j = pw_g h21 155 j := fun j => ((by rw [← h27w]; exact pw_g_ne (by omega) : pw_g h27 155 j = pw_g h24 155 j)).trans (by rw [← h24w]; exact pw_g_ne (by omega) : pw_g h24 155 j = pw_g h21 155 j)
            have hl35 : ∀ j : Nat, pw_g h18 155 j = pw_g h 155 j := fun j => ((by rw [← h18w]; exact pw_g_ne (by omega) : pw_g h18 155 j = pw_g h1 155 j)).trans (by rw [← h1w]; exact pw_g_ne (by omega) : pw_g h1 155 j = pw_g h 155 j)
            have hu33i : (pw_g h18 125 41).toNat = (pw_g h 125 41).toNat := by omega
            have hu33a : pw_g h21 155 ((pw_g h18 125 41).toNat) = n := by rw [← h21w]; exact pw_g_eqA h18I rfl (by omega) (by omega) (by omega)
            have hu33b : ∀ j : Nat, j ≠ (pw_g h18 125 41).toNat → pw_g h21 155 j = pw_g h18 155 j := fun j hj => by rw [← h21w]; exact pw_g_ne (fun q => hj q.2.symm)
            rw [hu33i] at hu33a hu33b
            have hl37 : ∀ j : Nat, pw_g h27 156 j = pw_g h24 156 j := fun j => (by rw [← h27w]; exact pw_g_ne (by omega) : pw_g h27 156 j = pw_g h24 156 j)
            have hl38 : ∀ j : Nat, pw_g h21 156 j = pw_g h 156 j := fun j => (((by rw [← h21w]; exact pw_g_ne (by omega) : pw_g h21 156 j = pw_g h18 156 j)).trans (by rw [← h18w]; exact pw_g_ne (by omega) : pw_g h18 156 j = pw_g h1 156 j)).trans (by rw [← h1w]; exact pw_g_ne (by omega) : pw_g h1 156 j = pw_g h 156 j)
            have hu36i : (pw_g h21 125 41).toNat = (pw_g h 125 41).toNat := by omega
            have hu36a : pw_g h24 156 ((pw_g h21 125 41).toNat) = z := by rw [← h24w]; exact pw_g_eqA h21I rfl (by omega) (by omega) (by omega)
            have hu36b : ∀ j : Nat, j ≠ (pw_g h21 125 41).toNat → pw_g h24 156 j = pw_g h21 156 j := fun j hj => by rw [← h24w]; exact pw_g_ne (fun q => hj q.2.symm)
            rw [hu36i] at hu36a hu36b
            exact ⟨h27I, h27F, ⟨_, rfl, by omega, by omega, Or.inl ⟨by omega, by omega, by omega, ⟨(hl31 _).trans hu30a, fun j hj => (hl31 j).trans ((hu30b j hj).trans (hl32 j))⟩, ⟨(hl34 _).trans hu33a, fun j hj => (hl34 j).trans ((hu33b j hj).trans (hl35 j))⟩, ⟨(hl37 _).trans hu36a, fun j hj => (hl37 j).trans ((hu36b j hj).trans (hl38 j))⟩⟩⟩⟩
          · intro hc39
            change ¬ (pw_g h1 125 41 ≠ (20 : Int)) at hc39
            refine pw_ld E (pc' := 39) (st' := [pw_i ((-1))]) rfl (fun _ => rfl) ?_
            refine pw_iret E rfl ?_
            have hl40 : ∀ j : Nat, pw_g h1 154 j = pw_g h 154 j := fun j => (by rw [← h1w]; exact pw_g_ne (by omega) : pw_g h1 154 j = pw_g h 154 j)
            have hl41 : ∀ j : Nat, pw_g h1 155 j = pw_g h 155 j := fun j => (by rw [← h1w]; exact pw_g_ne (by omega) : pw_g h1 155 j = pw_g h 155 j)
            have hl42 : ∀ j : Nat, pw_g h1 156 j = pw_g h 156 j := fun j => (by rw [← h1w]; exact pw_g_ne (by omega) : pw_g h1 156 j = pw_g h 156 j)
            exact ⟨h1I, h1F, ⟨_, rfl, by omega, by omega, Or.inr ⟨by omega, rfl, by omega, hl40, hl41, hl42⟩⟩⟩
      · skip
        refine pw_if E (pc' := 38) rfl (by decide) (by omega) (by omega) ?_ ?_
        · intro hc44
          change x10 = (0 : Int) at hc44
          refine pw_ld E (pc' := 39) (st' := [pw_i ((-1))]) rfl (fun _ => rfl) ?_
          refine pw_iret E rfl ?_
          have he45 : pw_g h1 125 41 = pw_g h 125 41 := by rw [← h1w]; exact pw_g_ne (by omega)
          have hl46 : ∀ j : Nat, pw_g h1 154 j = pw_g h 154 j := fun j => (by rw [← h1w]; exact pw_g_ne (by omega) : pw_g h1 154 j = pw_g h 154 j)
          have hl47 : ∀ j : Nat, pw_g h1 155 j = pw_g h 155 j := fun j => (by rw [← h1w]; exact pw_g_ne (by omega) : pw_g h1 155 j = pw_g h 155 j)
          have hl48 : ∀ j : Nat, pw_g h1 156 j = pw_g h 156 j := fun j => (by rw [← h1w]; exact pw_g_ne (by omega) : pw_g h1 156 j = pw_g h 156 j)
          exact ⟨h1I, h1F, ⟨_, rfl, by omega, by omega, Or.inr ⟨by omega, rfl, by omega, hl46, hl47, hl48⟩⟩⟩
        · intro hc49
          change ¬ (x10 = (0 : Int)) at hc49
          exfalso; omega
  · skip
    refine pw_if E (pc' := 38) rfl (by decide) (by omega) (by omega) ?_ ?_
    · intro hc51
      change x4 = (0 : Int) at hc51
      refine pw_ld E (pc' := 39) (st' := [pw_i ((-1))]) rfl (fun _ => rfl) ?_
      refine pw_iret E rfl ?_
      have he52 : pw_g h1 125 41 = pw_g h 125 41 := by rw [← h1w]; exact pw_g_ne (by omega)
      have hl53 : ∀ j : Nat, pw_g h1 154 j = pw_g h 154 j := fun j => (by rw [← h1w]; exact pw_g_ne (by omega) : pw_g h1 154 j = pw_g h 154 j)
      have hl54 : ∀ j : Nat, pw_g h1 155 j = pw_g h 155 j := fun j => (by rw [← h1w]; exact pw_g_ne (by omega) : pw_g h1 155 j = pw_g h 155 j)
      have hl55 : ∀ j : Nat, pw_g h1 156 j = pw_g h 156 j := fun j => (by rw [← h1w]; exact pw_g_ne (by omega) : pw_g h1 156 j = pw_g h 156 j)
      exact ⟨h1I, h1F, ⟨_, rfl, by omega, by omega, Or.inr ⟨by omega, rfl, by omega, hl53, hl54, hl55⟩⟩⟩
    · intro hc56
      change ¬ (x4 = (0 : Int)) at hc56
      exfalso; omega
end
section
/-! the greatest common divisor and fractions, exactly (printed by wip/tool/mgcd.py) -/
/-- the greatest common divisor -/
def pw_gd (x y : Int) : Int := (Int.gcd x y : Nat)
theorem pw_gd_0 {x : Int} (h : 0 ≤ x) : pw_gd x 0 = x := by
  unfold pw_gd
  rw [Int.gcd_zero_right]
  omega
theorem pw_gd_st {x y : Int} (h : 0 ≤ x) (hy : 0 ≤ y) : pw_gd y (x % y) = pw_gd x y := by
  obtain ⟨a, rfl⟩ := Int.eq_ofNat_of_zero_le h
  obtain ⟨b, rfl⟩ := Int.eq_ofNat_of_zero_le hy
  show ((Nat.gcd b (((a : Int) % (b : Int)).natAbs) : Nat) : Int) = ((Nat.gcd a b : Nat) : Int)
  rw [← Int.natCast_emod, Int.natAbs_natCast, Nat.gcd_comm b, ← Nat.gcd_rec, Nat.gcd_comm]
theorem pw_gd_pos {x y : Int} (hy : 0 < y) : 1 ≤ pw_gd x y ∧ pw_gd x y ≤ y := by
  unfold pw_gd Int.gcd
  have h1 : 0 < Nat.gcd x.natAbs y.natAbs := Nat.gcd_pos_of_pos_right _ (by omega)
  have h2 : Nat.gcd x.natAbs y.natAbs ≤ y.natAbs := Nat.le_of_dvd (by omega) (Nat.gcd_dvd_right _ _)
  omega
def pw_lab (a : Int) : Int := if 0 < a then a else -a
theorem pw_labB {a A : Int} (h1 : -A ≤ a) (h2 : a ≤ A) : 0 ≤ pw_lab a ∧ pw_lab a ≤ A ∧ (0 ≤ a → pw_lab a = a) ∧ (a ≤ 0 → pw_lab a = -a) := by
  unfold pw_lab
  split <;> omega
theorem pw_gd_ab {x y : Int} : pw_gd (pw_lab x) y = pw_gd x y := by
  unfold pw_gd Int.gcd pw_lab
  split
  · rfl
  · rw [Int.natAbs_neg]
theorem pw_gd_neg {x y : Int} : pw_gd (-x) y = pw_gd x y := by
  unfold pw_gd Int.gcd
  rw [Int.natAbs_neg]
/-- Euclid's way ends within so many steps -/
def pw_eb : Nat → Int → Int → Prop
  | 0, _, y => y = 0
  | n + 1, x, y => y = 0 ∨ pw_eb n y (x % y)
theorem pw_eb_S {n : Nat} {x y : Int} (h : pw_eb (n + 1) x y) (hy : y ≠ 0) : pw_eb n y (x % y) := Or.resolve_left h hy
theorem pw_eb_Z {x y : Int} (h : pw_eb 0 x y) : y = 0 := h
theorem pw_eb_of : ∀ (n : Nat) (x y : Int), 0 ≤ y → y ≤ x → x * y < 2 ^ n → pw_eb n x y := by
  intro n
  induction n with
  | zero =>
    intro x y h0 h1 h2
    show y = 0
    rcases (by omega : y = 0 ∨ 1 ≤ y) with e | e
    · exact e
    · have := Int.mul_le_mul (a := 1) (b := 1) (c := x) (d := y) (by omega) e (by omega) (by omega)
      rw [Int.pow_zero] at h2
      omega
  | succ n ih =>
    intro x y h0 h1 h2
    rcases (by omega : y = 0 ∨ 1 ≤ y) with e | e
    · exact Or.inl e
    · refine Or.inr (ih y (x % y) (Int.emod_nonneg _ (by omega)) (Int.le_of_lt (Int.emod_lt_of_pos _ (by omega))) ?_)
      have r0 := Int.emod_nonneg x (b := y) (by omega)
      have r1 := Int.emod_lt_of_pos x (b := y) (by omega)
      have e1 := Int.mul_ediv_add_emod x y
      generalize x % y = r at r0 r1 e1 ⊢
      generalize hu : y * (x / y) = u at e1
      have q1 : r ≤ u := by
        rcases (by omega : r ≤ u ∨ u < r) with q | q
        · exact q
        · exfalso
          have hq : x / y ≤ 0 := by
            rcases (by omega : x / y ≤ 0 ∨ 1 ≤ x / y) with z | z
            · exact z
            · have := Int.mul_le_mul_of_nonneg_left z h0
              omega
          have := Int.mul_le_mul_of_nonneg_left hq h0
          omega
      have q2 := Int.mul_le_mul_of_nonneg_right q1 h0
      have q3 : x * y = u * y + r * y := by rw [← Int.add_mul, e1]
      rw [Int.pow_succ] at h2
      rw [Int.mul_comm y r]
      omega
theorem pw_eb_100 {x y : Int} (h0 : 0 ≤ x) (h1 : x ≤ 1099511627776) (h2 : 0 ≤ y) (h3 : y ≤ 1099511627776) : pw_eb 100 x y := by
  have k1 : (2 : Int) ^ 100 = 1267650600228229401496703205376 := by decide
  have k2 : (2 : Int) ^ 99 = 633825300114114700748351602688 := by decide
  rcases (by omega : y ≤ x ∨ x < y) with e | e
  · refine pw_eb_of 100 x y h2 e ?_
    have := Int.mul_le_mul h1 h3 h2 (by decide)
    omega
  · refine Or.inr (pw_eb_of 99 y (x % y) (Int.emod_nonneg _ (by omega)) (Int.le_of_lt (Int.emod_lt_of_pos _ (by omega))) ?_)
    have r0 := Int.emod_nonneg x (b := y) (by omega)
    have r1 := Int.emod_lt_of_pos x (b := y) (by omega)
    have := Int.mul_le_mul (a := y) (b := x % y) (c := 1099511627776) (d := 1099511627776) h3 (by omega) r0 (by decide)
    omega
theorem pw_remB {a b : Int} (h : 0 < b) : 0 ≤ a % b ∧ a % b < b := ⟨Int.emod_nonneg _ (by omega), Int.emod_lt_of_pos _ h⟩
theorem pw_tdB {a b A : Int} (h1 : -A ≤ a) (h2 : a ≤ A) (h3 : 0 < b) : -A ≤ Int.tdiv a b ∧ Int.tdiv a b ≤ A ∧ (0 ≤ a → 0 ≤ Int.tdiv a b) := by
  have e : (a.tdiv b).natAbs = a.natAbs / b.natAbs := Int.natAbs_tdiv a b
  have l := Nat.div_le_self a.natAbs b.natAbs
  rw [← e] at l
  clear e
  refine ⟨by omega, by omega, fun h => Int.tdiv_nonneg h (by omega)⟩
theorem pw_mulS {a b A B : Int} (h1 : -A ≤ a) (h2 : a ≤ A) (h3 : 0 ≤ b) (h4 : b ≤ B) : -(A * B) ≤ a * b ∧ a * b ≤ A * B := by
  have l1 := Int.mul_le_mul_of_nonneg_right h1 h3
  have l2 := Int.mul_le_mul_of_nonneg_right h2 h3
  have l3 := Int.mul_le_mul_of_nonneg_left (c := A) h4 (by omega)
  rw [Int.neg_mul] at l1
  omega
theorem pw_gd_sc {g x y : Int} (hg : 0 < g) : pw_gd (g * x) (g * y) = g * pw_gd x y := by
  unfold pw_gd
  rw [Int.gcd_mul_left, Int.natCast_mul, show ((g.natAbs : Nat) : Int) = g by omega]
theorem pw_td_sc {g x y : Int} (hg : 0 < g) : Int.tdiv (g * x) (g * y) = Int.tdiv x y := Int.mul_tdiv_mul_of_pos _ _ hg
/-- the same fraction told by other numbers, in lowest terms -/
theorem pw_lw_sc {g x y : Int} (hg : 0 < g) : Int.tdiv (g * x) (pw_gd (g * x) (g * y)) = Int.tdiv x (pw_gd x y) ∧ Int.tdiv (g * y) (pw_gd (g * x) (g * y)) = Int.tdiv y (pw_gd x y) := by
  rw [pw_gd_sc hg]
  exact ⟨pw_td_sc hg, pw_td_sc hg⟩
/-- what a fraction in lowest terms says of the one that it was made of -/
theorem pw_lw {x y : Int} (hy : 0 < y) : pw_gd x y * Int.tdiv x (pw_gd x y) = x ∧ pw_gd x y * Int.tdiv y (pw_gd x y) = y ∧ 1 ≤ Int.tdiv y (pw_gd x y) := by
  have hp := pw_gd_pos (x := x) hy
  have d1 : pw_gd x y ∣ x := Int.gcd_dvd_left _ _
  have d2 : pw_gd x y ∣ y := Int.gcd_dvd_right _ _
  have e1 := Int.mul_tdiv_cancel' d1
  have e2 := Int.mul_tdiv_cancel' d2
  refine ⟨e1, e2, ?_⟩
  rcases (by omega : 1 ≤ Int.tdiv y (pw_gd x y) ∨ Int.tdiv y (pw_gd x y) ≤ 0) with q | q
  · exact q
  · have := Int.mul_le_mul_of_nonneg_left (c := pw_gd x y) q (by omega)
    omega
theorem pw_mulG {a b A B : Int} (h1 : -A ≤ a) (h2 : a ≤ A) (h3 : -B ≤ b) (h4 : b ≤ B) : -(A * B) ≤ a * b ∧ a * b ≤ A * B := by
  rcases (by omega : 0 ≤ b ∨ 0 ≤ -b) with q | q
  · exact pw_mulS h1 h2 q h4
  · have := pw_mulS (b := -b) (B := B) h1 h2 q (by omega)
    rw [Int.mul_neg] at this
    omega
theorem pw_gd_1 {x : Int} : pw_gd x 1 = 1 := by
  have := pw_gd_pos (x := x) (y := 1) (by decide)
  omega
theorem pw_td_1 {x : Int} : Int.tdiv x (pw_gd x 1) = x := by
  rw [pw_gd_1, Int.tdiv_one]
theorem pw_td_11 {x : Int} : Int.tdiv 1 (pw_gd x 1) = 1 := by
  rw [pw_gd_1, Int.tdiv_one]
section Pg
variable {X : List (Nat × List Value)} {d : Nat} {h : pm_H} {m pc pc' len na nl own rt : Nat} {C : pm_T (Instr × Nat)} {ls : pm_L} {r : List Value} {Q : pm_H → (Option Value ⊕ Unit) → Prop}
theorem pw_lremC {a b : Int} (he : pm_ent m = some (na, nl, own, rt, C)) (hq : pm_get C pc = some (.lrem, len)) (hc : pc + len = pc') (h1 : 0 ≤ a) (h2 : a ≤ 4611686018427387904) (h3 : 0 < b) (h4 : b ≤ 4611686018427387904) (H : pw X d h m pc' ls (.long (Int64.ofInt (a % b)) :: r) Q) : pw X d h m pc ls (.long (Int64.ofInt b) :: .long (Int64.ofInt a) :: r) Q := by
  have n0 := pw_l0 (a := b) (by omega) (by omega) (by omega)
  have e : Int64.ofInt a - Int64.ofInt a / Int64.ofInt b * Int64.ofInt b = Int64.ofInt (a % b) := by
    apply Int64.toInt_inj.mp
    have hb := pw_remB (a := a) h3
    rw [pw_remE n0, pw_lToInt (by omega) (by omega), pw_lToInt (by omega) (by omega), pw_lToInt (by omega) (by omega), Int.tmod_eq_emod_of_nonneg h1]
  rw [← e] at H
  exact pw_ldivA he hq rfl hc n0 H
theorem pw_ldivT {a b : Int} (he : pm_ent m = some (na, nl, own, rt, C)) (hq : pm_get C pc = some (.ldiv, len)) (hc : pc + len = pc') (h1 : -4611686018427387904 ≤ a) (h2 : a ≤ 4611686018427387904) (h3 : 0 < b) (h4 : b ≤ 4611686018427387904) (H : pw X d h m pc' ls (.long (Int64.ofInt (Int.tdiv a b)) :: r) Q) : pw X d h m pc ls (.long (Int64.ofInt b) :: .long (Int64.ofInt a) :: r) Q := by
  have e : Int64.ofInt a / Int64.ofInt b = Int64.ofInt (Int.tdiv a b) := by
    apply Int64.toInt_inj.mp
    have hb := pw_tdB h1 h2 h3
    rw [Int64.toInt_div_of_ne_left _ _ (fun e => by
      have := congrArg Int64.toInt e
      rw [pw_lToInt (by omega) (by omega)] at this
      have m : Int64.minValue.toInt = -9223372036854775808 := by decide
      omega), pw_lToInt (by omega) (by omega), pw_lToInt (by omega) (by omega), pw_lToInt (by omega) (by omega)]
  rw [← e] at H
  exact pw_ldivA he hq rfl hc (pw_l0 (by omega) (by omega) (by omega)) H
theorem pw_labsC {ix : Nat} {a : Int} (he : pm_ent m = some (na, nl, own, rt, C)) (hq : pm_get C pc = some (.invokestatic ix, len)) (hl : pm_get (pm_lnk own) ix = some (12, 4, 0, 0)) (h8 : pm_cat8 (.long (Int64.ofInt a) :: r) = true) (h1 : -4611686018427387904 ≤ a) (h2 : a ≤ 4611686018427387904) (H : pw X d h m (pc + 3) ls (.long (Int64.ofInt (pw_lab a)) :: r) Q) : pw X d h m pc ls (.long (Int64.ofInt a) :: r) Q := by
  refine pw_labs he hq hl h8 ?_
  have e : (if 0 < Int64.ofInt a then Int64.ofInt a else -Int64.ofInt a) = Int64.ofInt (pw_lab a) := by
    unfold pw_lab
    have e0 : (0 : Int64).toInt = 0 := rfl
    by_cases q : 0 < a
    · rw [if_pos q, if_pos (by rw [Int64.lt_iff_toInt_lt, pw_lToInt h1 h2, e0]; exact q)]
    · rw [if_neg q, if_neg (by rw [Int64.lt_iff_toInt_lt, pw_lToInt h1 h2, e0]; exact q), Int64.ofInt_neg]
  rw [e]
  exact H
end Pg

set_option maxHeartbeats 4000000 in
theorem cm_7_g {X : List (Nat × List Value)} {d : Nat} {h : pm_H} (hd : 1 ≤ d) (I : pw_I h) (x : Int) (hx1 : 0 ≤ x) (hx2 : x ≤ 1099511627776) (y : Int) (hy1 : 0 ≤ y) (hy2 : y ≤ 1099511627776) : pw X d h 7 0 [some (.long (Int64.ofInt x)), none, some (.long (Int64.ofInt y)), none, none, none, none, none, none, none, none] [] (fun h' v => h = h' ∧ ∃ a : Int, v = .inl (some (.long (Int64.ofInt a))) ∧ 0 ≤ a ∧ a ≤ 1099511627776 ∧ (a = pw_gd x y)) := by
  have E : pm_ent 7 = some (2, 11, 1, 2, pmc_7) := rfl
  refine pw_ld E (pc' := 1) (st' := [.long (Int64.ofInt x)]) rfl (fun _ => rfl) ?_
  refine pw_lst E (pc' := 3) (ls' := [some (.long (Int64.ofInt x)), none, some (.long (Int64.ofInt y)), none, some (.long (Int64.ofInt x)), none, none, none, none, none, none]) rfl rfl rfl rfl ?_
  refine pw_ld E (pc' := 4) (st' := [.long (Int64.ofInt y)]) rfl (fun _ => rfl) ?_
  refine pw_lst E (pc' := 6) (ls' := [some (.long (Int64.ofInt x)), none, some (.long (Int64.ofInt y)), none, some (.long (Int64.ofInt x)), none, some (.long (Int64.ofInt y)), none, none, none, none]) rfl rfl rfl rfl ?_
  refine pw_ld E (pc' := 7) (st' := [pw_i 0]) rfl (fun _ => rfl) ?_
  refine pw_ist E (pc' := 9) (ls' := [some (.long (Int64.ofInt x)), none, some (.long (Int64.ofInt y)), none, some (.long (Int64.ofInt x)), none, some (.long (Int64.ofInt y)), none, some (pw_i 0), none, none]) rfl rfl rfl rfl ?_
  have L9 : ∀ (n9 : Nat) (k9_4 : Int) (k9_6 : Int) (k9_8 : Int) (k9_9 : Option Value), 0 ≤ k9_4 → k9_4 ≤ 1099511627776 → 0 ≤ k9_6 → k9_6 ≤ 1099511627776 → 0 ≤ k9_8 → k9_8 ≤ 100 → pw_gd k9_4 k9_6 = pw_gd x y → pw_eb (100 - k9_8).toNat k9_4 k9_6 → (100 - k9_8).toNat = n9 → pw X d h 7 9 [some (.long (Int64.ofInt x)), none, some (.long (Int64.ofInt y)), none, some (.long (Int64.ofInt k9_4)), none, some (.long (Int64.ofInt k9_6)), none, some (pw_i k9_8), k9_9, none] [] (fun h' v => h = h' ∧ ∃ a : Int, v = .inl (some (.long (Int64.ofInt a))) ∧ 0 ≤ a ∧ a ≤ 1099511627776 ∧ (a = pw_gd x y)) := by
    intro n9
    induction n9 using Nat.strongRecOn with
    | ind n9 ih9 =>
      intro k9_4 k9_6 k9_8 k9_9 k9_4a k9_4b k9_6a k9_6b k9_8a k9_8b hx9_0 hx9_1 hm9
      refine pw_ld E (pc' := 11) (st' := [pw_i k9_8]) rfl (fun _ => rfl) ?_
      refine pw_bip E (pc' := 13) rfl rfl (by decide) ?_
      refine pw_if2 E (pc' := 44) rfl (by decide) (by omega) (by omega) (by decide) (by decide) ?_ ?_
      · intro hc1
        change (100 : Int) ≤ k9_8 at hc1
        have hy0 : k9_6 = 0 := by first | omega | exact pw_eb_Z (by rw [show (0 : Nat) = (100 - k9_8).toNat by omega]; exact hx9_1)
        rw [hy0, pw_gd_0 k9_4a] at hx9_0
        refine pw_ld E (pc' := 46) (st' := [.long (Int64.ofInt k9_4)]) rfl (fun _ => rfl) ?_
        refine pw_lret E rfl ?_
        exact ⟨rfl, ⟨_, rfl, by omega, by omega, by omega⟩⟩
      · intro hc2
        change ¬ ((100 : Int) ≤ k9_8) at hc2
        refine pw_ld E (pc' := 18) (st' := [.long (Int64.ofInt k9_6)]) rfl (fun _ => rfl) ?_
        refine pw_ld E (pc' := 19) (st' := [.long (Int64.ofInt 0), .long (Int64.ofInt k9_6)]) rfl (fun _ => rfl) ?_
        refine pw_lcmpC E (pc' := 20) rfl rfl (by omega) (by omega) (by omega) (by omega) (fun c3 hc3 => ?_)
        refine pw_if E (pc' := 44) rfl (by decide) (by omega) (by omega) ?_ ?_
        · intro hc4
          change c3 = (0 : Int) at hc4
          have hy0 : k9_6 = 0 := by first | omega | exact pw_eb_Z (by rw [show (0 : Nat) = (100 - k9_8).toNat by omega]; exact hx9_1)
          rw [hy0, pw_gd_0 k9_4a] at hx9_0
          refine pw_ld E (pc' := 46) (st' := [.long (Int64.ofInt k9_4)]) rfl (fun _ => rfl) ?_
          refine pw_lret E rfl ?_
          exact ⟨rfl, ⟨_, rfl, by omega, by omega, by omega⟩⟩
        · intro hc5
          change ¬ (c3 = (0 : Int)) at hc5
          refine pw_ld E (pc' := 25) (st' := [.long (Int64.ofInt k9_4)]) rfl (fun _ => rfl) ?_
          refine pw_ld E (pc' := 27) (st' := [.long (Int64.ofInt k9_6), .long (Int64.ofInt k9_4)]) rfl (fun _ => rfl) ?_
          refine pw_lremC E (pc' := 28) rfl rfl (by omega) (by omega) (by omega) (by omega) ?_
          have hd6 := pw_remB (a := k9_4) (b := k9_6) (by omega)
          refine pw_lst E (pc' := 30) (ls' := [some (.long (Int64.ofInt x)), none, some (.long (Int64.ofInt y)), none, some (.long (Int64.ofInt k9_4)), none, some (.long (Int64.ofInt k9_6)), none, some (pw_i k9_8), some (.long (Int64.ofInt (k9_4 % k9_6))), none]) rfl rfl rfl rfl ?_
          refine pw_ld E (pc' := 32) (st' := [.long (Int64.ofInt k9_6)]) rfl (fun _ => rfl) ?_
          refine pw_lst E (pc' := 34) (ls' := [some (.long (Int64.ofInt x)), none, some (.long (Int64.ofInt y)), none, some (.long (Int64.ofInt k9_6)), none, some (.long (Int64.ofInt k9_6)), none, some (pw_i k9_8), some (.long (Int64.ofInt (k9_4 % k9_6))), none]) rfl rfl rfl rfl ?_
          refine pw_ld E (pc' := 36) (st' := [.long (Int64.ofInt (k9_4 % k9_6))]) rfl (fun _ => rfl) ?_
          refine pw_lst E (pc' := 38) (ls' := [some (.long (Int64.ofInt x)), none, some (.long (Int64.ofInt y)), none, some (.long (Int64.ofInt k9_6)), none, some (.long (Int64.ofInt (k9_4 % k9_6))), none, some (pw_i k9_8), some (.long (Int64.ofInt (k9_4 % k9_6))), none]) rfl rfl rfl rfl ?_
          refine pw_inc E (pc' := 41) (ls' := [some (.long (Int64.ofInt x)), none, some (.long (Int64.ofInt y)), none, some (.long (Int64.ofInt k9_6)), none, some (.long (Int64.ofInt (k9_4 % k9_6))), none, some (pw_i (k9_8 + 1)), some (.long (Int64.ofInt (k9_4 % k9_6))), none]) rfl rfl rfl rfl ?_
          refine pw_goto E (pc' := 9) rfl (by decide) ?_
          exact ih9 _ (by omega) (k9_6) (k9_4 % k9_6) (k9_8 + 1) (some (.long (Int64.ofInt (k9_4 % k9_6))))  (by omega) (by omega) (by omega) (by omega) (by omega) (by omega) ((pw_gd_st (by omega) (by omega)).trans hx9_0) (pw_eb_S (by rw [show (100 - (k9_8 + 1)).toNat + 1 = (100 - k9_8).toNat by omega]; exact hx9_1) (by omega)) rfl
  exact L9 _ (x) (y) (0) (none)  (by omega) (by omega) (by omega) (by omega) (by omega) (by omega) rfl (pw_eb_100 (by omega) (by omega) (by omega) (by omega)) rfl
set_option maxHeartbeats 4000000 in
theorem cm_6_22g {X : List (Nat × List Value)} {d : Nat} {h : pm_H} (hd : 2 ≤ d) (I : pw_I h) (x : Int) (hx1 : (-1099511627776) ≤ x) (hx2 : x ≤ 1099511627776) (y : Int) (hy1 : 1 ≤ y) (hy2 : y ≤ 1099511627776) : pw X d h 6 0 [some (.ref 38), some (.long (Int64.ofInt x)), none, some (.long (Int64.ofInt y)), none, none, none] [] (fun h' v => pw_I h' ∧ pw_E [22] h h' ∧ (pw_gm h' 22 0 = Int.tdiv x (pw_gd x y) ∧ pw_gm h' 22 1 = Int.tdiv y (pw_gd x y)) ∧ (v = .inl none)) := by
  have E : pm_ent 6 = some (3, 7, 1, 4, pmc_6) := rfl
  have E0 : pw_E [22] h h := pw_E.rf _ _
  refine pw_ld E (pc' := 1) (st' := [.long (Int64.ofInt x)]) rfl (fun _ => rfl) ?_
  refine pw_labsC E rfl rfl rfl (by omega) (by omega) ?_
  have hd1 := pw_labB (a := x) (A := 1099511627776) (by omega) (by omega)
  refine pw_ld E (pc' := 5) (st' := [.long (Int64.ofInt y), .long (Int64.ofInt (pw_lab x))]) rfl (fun _ => rfl) ?_
  refine pw_call (m' := 7) (As := [.long (Int64.ofInt (pw_lab x)), .long (Int64.ofInt y)]) (rest := []) (ls'' := [some (.long (Int64.ofInt (pw_lab x))), none, some (.long (Int64.ofInt y)), none, none, none, none, none, none, none, none]) (Nat.le_trans (by decide) hd) E rfl (fun _ => pw_iS rfl rfl rfl) (rfl : pm_ent 7 = some (2, 11, 1, 2, pmc_7)) rfl rfl (cm_7_g (pw_dp hd (by decide)) I (pw_lab x) (by omega) (by omega) (y) (by omega) (by omega)) ?_
  rintro u3 v2 ⟨rfl, x4, rfl, hx4a, hx4b, hx4r⟩
  refine ⟨_, rfl, ?_⟩
  show pw X d h 6 8 [some (.ref 38), some (.long (Int64.ofInt x)), none, some (.long (Int64.ofInt y)), none, none, none] [.long (Int64.ofInt x4)] _
  change x4 = pw_gd (pw_lab x) y at hx4r
  have hgd : x4 = pw_gd x y := by rw [hx4r]; exact pw_gd_ab
  have hgp := pw_gd_pos (x := x) (y := y) (by omega)
  refine pw_lst E (pc' := 10) (ls' := [some (.ref 38), some (.long (Int64.ofInt x)), none, some (.long (Int64.ofInt y)), none, some (.long (Int64.ofInt x4)), none]) rfl rfl rfl rfl ?_
  refine pw_ld E (pc' := 11) (st' := [.long (Int64.ofInt y)]) rfl (fun _ => rfl) ?_
  refine pw_ld E (pc' := 12) (st' := [.long (Int64.ofInt 0), .long (Int64.ofInt y)]) rfl (fun _ => rfl) ?_
  refine pw_lcmpC E (pc' := 13) rfl rfl (by omega) (by omega) (by omega) (by omega) (fun c5 hc5 => ?_)
  refine pw_if E (pc' := 23) rfl (by decide) (by omega) (by omega) ?_ ?_
  · intro hc6
    change c5 ≤ (0 : Int) at hc6
    exfalso; omega
  · intro hc7
    change ¬ (c5 ≤ (0 : Int)) at hc7
    refine pw_ld E (pc' := 18) (st' := [.long (Int64.ofInt x4)]) rfl (fun _ => rfl) ?_
    refine pw_ld E (pc' := 19) (st' := [.long (Int64.ofInt 0), .long (Int64.ofInt x4)]) rfl (fun _ => rfl) ?_
    refine pw_lcmpC E (pc' := 20) rfl rfl (by omega) (by omega) (by omega) (by omega) (fun c8 hc8 => ?_)
    refine pw_if E (pc' := 24) rfl (by decide) (by omega) (by omega) ?_ ?_
    · intro hc9
      change (0 : Int) < c8 at hc9
      refine pw_ld E (pc' := 25) (st' := [.ref 38]) rfl (fun _ => rfl) ?_
      refine pw_ld E (pc' := 26) (st' := [.long (Int64.ofInt x), .ref 38]) rfl (fun _ => rfl) ?_
      refine pw_ld E (pc' := 28) (st' := [.long (Int64.ofInt x4), .long (Int64.ofInt x), .ref 38]) rfl (fun _ => rfl) ?_
      refine pw_ldivT E (pc' := 29) rfl rfl (by omega) (by omega) (by omega) (by omega) ?_
      have hd10 := pw_tdB (a := x) (b := x4) (A := 1099511627776) (by omega) (by omega) (by omega)
      refine pw_putL I E (c := 22) (k := 0) (pc' := 32) rfl rfl rfl rfl rfl rfl ?_
      intro h11I h11E
      generalize h11w : pw_w h 22 0 (.long (Int64.ofInt (Int.tdiv x x4))) = h11 at h11I h11E ⊢
      have h11F := E0.tr (h11E.wk (W' := [22]) (by first | rfl | simp))
      refine pw_ld E (pc' := 33) (st' := [.ref 38]) rfl (fun _ => rfl) ?_
      refine pw_ld E (pc' := 34) (st' := [.long (Int64.ofInt y), .ref 38]) rfl (fun _ => rfl) ?_
      refine pw_ld E (pc' := 36) (st' := [.long (Int64.ofInt x4), .long (Int64.ofInt y), .ref 38]) rfl (fun _ => rfl) ?_
      refine pw_ldivT E (pc' := 37) rfl rfl (by omega) (by omega) (by omega) (by omega) ?_
      have hd12 := pw_tdB (a := y) (b := x4) (A := 1099511627776) (by omega) (by omega) (by omega)
      refine pw_putL h11I E (c := 22) (k := 1) (pc' := 40) rfl rfl rfl rfl rfl rfl ?_
      intro h13I h13E
      generalize h13w : pw_w h11 22 1 (.long (Int64.ofInt (Int.tdiv y x4))) = h13 at h13I h13E ⊢
      have h13F := h11F.tr (h13E.wk (W' := [22]) (by first | rfl | simp))
      have he14 : pw_gm h13 22 0 = pw_gm h11 22 0 := by rw [← h13w]; exact pw_gm_ne (by omega)
      have he15 : pw_gm h11 22 0 = Int.tdiv x x4 := by rw [← h11w]; exact pw_gm_eq (c := 22) (k := 0) I rfl rfl (by omega) (by omega)
      have he16 : pw_gm h13 22 1 = Int.tdiv y x4 := by rw [← h13w]; exact pw_gm_eq (c := 22) (k := 1) h11I rfl rfl (by omega) (by omega)
      refine pw_vret E rfl ?_
      exact ⟨h13I, h13F, ⟨by rw [← hgd]; omega, by rw [← hgd]; omega⟩, rfl⟩
    · intro hc17
      change ¬ ((0 : Int) < c8) at hc17
      exfalso; omega
set_option maxHeartbeats 4000000 in
theorem cm_6_23g {X : List (Nat × List Value)} {d : Nat} {h : pm_H} (hd : 2 ≤ d) (I : pw_I h) (x : Int) (hx1 : (-1099511627776) ≤ x) (hx2 : x ≤ 1099511627776) (y : Int) (hy1 : 1 ≤ y) (hy2 : y ≤ 1099511627776) : pw X d h 6 0 [some (.ref 39), some (.long (Int64.ofInt x)), none, some (.long (Int64.ofInt y)), none, none, none] [] (fun h' v => pw_I h' ∧ pw_E [23] h h' ∧ (pw_gm h' 23 0 = Int.tdiv x (pw_gd x y) ∧ pw_gm h' 23 1 = Int.tdiv y (pw_gd x y)) ∧ (v = .inl none)) := by
  have E : pm_ent 6 = some (3, 7, 1, 4, pmc_6) := rfl
  have E0 : pw_E [23] h h := pw_E.rf _ _
  refine pw_ld E (pc' := 1) (st' := [.long (Int64.ofInt x)]) rfl (fun _ => rfl) ?_
  refine pw_labsC E rfl rfl rfl (by omega) (by omega) ?_
  have hd1 := pw_labB (a := x) (A := 1099511627776) (by omega) (by omega)
  refine pw_ld E (pc' := 5) (st' := [.long (Int64.ofInt y), .long (Int64.ofInt (pw_lab x))]) rfl (fun _ => rfl) ?_
  refine pw_call (m' := 7) (As := [.long (Int64.ofInt (pw_lab x)), .long (Int64.ofInt y)]) (rest := []) (ls'' := [some (.long (Int64.ofInt (pw_lab x))), none, some (.long (Int64.ofInt y)), none, none, none, none, none, none, none, none]) (Nat.le_trans (by decide) hd) E rfl (fun _ => pw_iS rfl rfl rfl) (rfl : pm_ent 7 = some (2, 11, 1, 2, pmc_7)) rfl rfl (cm_7_g (pw_dp hd (by decide)) I (pw_lab x) (by omega) (by omega) (y) (by omega) (by omega)) ?_
  rintro u3 v2 ⟨rfl, x4, rfl, hx4a, hx4b, hx4r⟩
  refine ⟨_, rfl, ?_⟩
  show pw X d h 6 8 [some (.ref 39), some (.long (Int64.ofInt x)), none, some (.long (Int64.ofInt y)), none, none, none] [.long (Int64.ofInt x4)] _
  change x4 = pw_gd (pw_lab x) y at hx4r
  have hgd : x4 = pw_gd x y := by rw [hx4r]; exact pw_gd_ab
  have hgp := pw_gd_pos (x := x) (y := y) (by omega)
  refine pw_lst E (pc' := 10) (ls' := [some (.ref 39), some (.long (Int64.ofInt x)), none, some (.long (Int64.ofInt y)), none, some (.long (Int64.ofInt x4)), none]) rfl rfl rfl rfl ?_
  refine pw_ld E (pc' := 11) (st' := [.long (Int64.ofInt y)]) rfl (fun _ => rfl) ?_
  refine pw_ld E (pc' := 12) (st' := [.long (Int64.ofInt 0), .long (Int64.ofInt y)]) rfl (fun _ => rfl) ?_
  refine pw_lcmpC E (pc' := 13) rfl rfl (by omega) (by omega) (by omega) (by omega) (fun c5 hc5 => ?_)
  refine pw_if E (pc' := 23) rfl (by decide) (by omega) (by omega) ?_ ?_
  · intro hc6
    change c5 ≤ (0 : Int) at hc6
    exfalso; omega
  · intro hc7
    change ¬ (c5 ≤ (0 : Int)) at hc7
    refine pw_ld E (pc' := 18) (st' := [.long (Int64.ofInt x4)]) rfl (fun _ => rfl) ?_
    refine pw_ld E (pc' := 19) (st' := [.long (Int64.ofInt 0), .long (Int64.ofInt x4)]) rfl (fun _ => rfl) ?_
    refine pw_lcmpC E (pc' := 20) rfl rfl (by omega) (by omega) (by omega) (by omega) (fun c8 hc8 => ?_)
    refine pw_if E (pc' := 24) rfl (by decide) (by omega) (by omega) ?_ ?_
    · intro hc9
      change (0 : Int) < c8 at hc9
      refine pw_ld E (pc' := 25) (st' := [.ref 39]) rfl (fun _ => rfl) ?_
      refine pw_ld E (pc' := 26) (st' := [.long (Int64.ofInt x), .ref 39]) rfl (fun _ => rfl) ?_
      refine pw_ld E (pc' := 28) (st' := [.long (Int64.ofInt x4), .long (Int64.ofInt x), .ref 39]) rfl (fun _ => rfl) ?_
      refine pw_ldivT E (pc' := 29) rfl rfl (by omega) (by omega) (by omega) (by omega) ?_
      have hd10 := pw_tdB (a := x) (b := x4) (A := 1099511627776) (by omega) (by omega) (by omega)
      refine pw_putL I E (c := 23) (k := 0) (pc' := 32) rfl rfl rfl rfl rfl rfl ?_
      intro h11I h11E
      generalize h11w : pw_w h 23 0 (.long (Int64.ofInt (Int.tdiv x x4))) = h11 at h11I h11E ⊢
      have h11F := E0.tr (h11E.wk (W' := [23]) (by first | rfl | simp))
      refine pw_ld E (pc' := 33) (st' := [.ref 39]) rfl (fun _ => rfl) ?_
      refine pw_ld E (pc' := 34) (st' := [.long (Int64.ofInt y), .ref 39]) rfl (fun _ => rfl) ?_
      refine pw_ld E (pc' := 36) (st' := [.long (Int64.ofInt x4), .long (Int64.ofInt y), .ref 39]) rfl (fun _ => rfl) ?_
      refine pw_ldivT E (pc' := 37) rfl rfl (by omega) (by omega) (by omega) (by omega) ?_
      have hd12 := pw_tdB (a := y) (b := x4) (A := 1099511627776) (by omega) (by omega) (by omega)
      refine pw_putL h11I E (c := 23) (k := 1) (pc' := 40) rfl rfl rfl rfl rfl rfl ?_
      intro h13I h13E
      generalize h13w : pw_w h11 23 1 (.long (Int64.ofInt (Int.tdiv y x4))) = h13 at h13I h13E ⊢
      have h13F := h11F.tr (h13E.wk (W' := [23]) (by first | rfl | simp))
      have he14 : pw_gm h13 23 0 = pw_gm h11 23 0 := by rw [← h13w]; exact pw_gm_ne (by omega)
      have he15 : pw_gm h11 23 0 = Int.tdiv x x4 := by rw [← h11w]; exact pw_gm_eq (c := 23) (k := 0) I rfl rfl (by omega) (by omega)
      have he16 : pw_gm h13 23 1 = Int.tdiv y x4 := by rw [← h13w]; exact pw_gm_eq (c := 23) (k := 1) h11I rfl rfl (by omega) (by omega)
      refine pw_vret E rfl ?_
      exact ⟨h13I, h13F, ⟨by rw [← hgd]; omega, by rw [← hgd]; omega⟩, rfl⟩
    · intro hc17
      change ¬ ((0 : Int) < c8) at hc17
      exfalso; omega
set_option maxHeartbeats 4000000 in
theorem cm_9_22g {X : List (Nat × List Value)} {d : Nat} {h : pm_H} (hd : 1 ≤ d) (I : pw_I h) (n : Int) (hn1 : (-2147483648) ≤ n) (hn2 : n ≤ 2147483647) (hp0 : (-1099511627776) ≤ pw_gm h 22 0) (hp1 : pw_gm h 22 0 ≤ 1099511627776) (hp2 : (-1099511627776) ≤ pw_gm h 22 1) (hp3 : pw_gm h 22 1 ≤ 1099511627776) : pw X d h 9 0 [some (.ref 38), some (pw_i n)] [] (fun h' v => h = h' ∧ ∃ a : Int, v = .inl (some (.long (Int64.ofInt a))) ∧ (-1099511627776) ≤ a ∧ a ≤ 1099511627776 ∧ ((n = 0 → a = pw_gm h 22 0) ∧ (n ≠ 0 → a = pw_gm h 22 1))) := by
  have E : pm_ent 9 = some (2, 2, 1, 2, pmc_9) := rfl
  refine pw_ld E (pc' := 1) (st' := [pw_i n]) rfl (fun _ => rfl) ?_
  refine pw_if E (pc' := 11) rfl (by decide) (by omega) (by omega) ?_ ?_
  · intro hc1
    change n ≠ (0 : Int) at hc1
    refine pw_ld E (pc' := 12) (st' := [.ref 38]) rfl (fun _ => rfl) ?_
    refine pw_getLM I E (c := 22) (k := 1) (pc' := 15) rfl rfl rfl rfl rfl rfl ?_
    refine pw_lret E rfl ?_
    exact ⟨rfl, ⟨_, rfl, by omega, by omega, ⟨fun _ => by omega, fun _ => by omega⟩⟩⟩
  · intro hc2
    change ¬ (n ≠ (0 : Int)) at hc2
    refine pw_ld E (pc' := 5) (st' := [.ref 38]) rfl (fun _ => rfl) ?_
    refine pw_getLM I E (c := 22) (k := 0) (pc' := 8) rfl rfl rfl rfl rfl rfl ?_
    refine pw_goto E (pc' := 15) rfl (by decide) ?_
    refine pw_lret E rfl ?_
    exact ⟨rfl, ⟨_, rfl, by omega, by omega, ⟨fun _ => by omega, fun _ => by omega⟩⟩⟩
set_option maxHeartbeats 4000000 in
theorem cm_223_g {X : List (Nat × List Value)} {d : Nat} {h : pm_H} (hd : 1 ≤ d) (I : pw_I h) (p : Int) (hp1 : (-1099511627776) ≤ p) (hp2 : p ≤ 1099511627776) (q : Int) (hq1 : 1 ≤ q) (hq2 : q ≤ 1099511627776) : pw X d h 223 0 [some (.long (Int64.ofInt p)), none, some (.long (Int64.ofInt q)), none, none, none, none, none, none, none] [] (fun h' v => h = h' ∧ ∃ a : Int, v = .inl (some (.long (Int64.ofInt a))) ∧ 1 ≤ a ∧ a ≤ 1099511627776 ∧ (a = pw_gd p q)) := by
  have E : pm_ent 223 = some (2, 10, 12, 2, pmc_223) := rfl
  refine pw_ld E (pc' := 1) (st' := [.long (Int64.ofInt p)]) rfl (fun _ => rfl) ?_
  refine pw_ld E (pc' := 2) (st' := [.long (Int64.ofInt 0), .long (Int64.ofInt p)]) rfl (fun _ => rfl) ?_
  refine pw_lcmpC E (pc' := 3) rfl rfl (by omega) (by omega) (by omega) (by omega) (fun c1 hc1 => ?_)
  refine pw_if E (pc' := 11) rfl (by decide) (by omega) (by omega) ?_ ?_
  · intro hc2
    change (0 : Int) ≤ c1 at hc2
    refine pw_ld E (pc' := 12) (st' := [.long (Int64.ofInt p)]) rfl (fun _ => rfl) ?_
    refine pw_lst E (pc' := 14) (ls' := [some (.long (Int64.ofInt p)), none, some (.long (Int64.ofInt q)), none, some (.long (Int64.ofInt p)), none, none, none, none, none]) rfl rfl rfl rfl ?_
    refine pw_ld E (pc' := 15) (st' := [.long (Int64.ofInt q)]) rfl (fun _ => rfl) ?_
    refine pw_ld E (pc' := 16) (st' := [.long (Int64.ofInt 0), .long (Int64.ofInt q)]) rfl (fun _ => rfl) ?_
    refine pw_lcmpC E (pc' := 17) rfl rfl (by omega) (by omega) (by omega) (by omega) (fun c3 hc3 => ?_)
    refine pw_if E (pc' := 25) rfl (by decide) (by omega) (by omega) ?_ ?_
    · intro hc4
      change (0 : Int) ≤ c3 at hc4
      refine pw_ld E (pc' := 26) (st' := [.long (Int64.ofInt q)]) rfl (fun _ => rfl) ?_
      refine pw_lst E (pc' := 28) (ls' := [some (.long (Int64.ofInt p)), none, some (.long (Int64.ofInt q)), none, some (.long (Int64.ofInt p)), none, some (.long (Int64.ofInt q)), none, none, none]) rfl rfl rfl rfl ?_
      have L28 : ∀ (n28 : Nat) (k28_4 : Int) (k28_6 : Int) (k28_8 : Option Value), 0 ≤ k28_4 → k28_4 ≤ 1099511627776 → 0 ≤ k28_6 → k28_6 ≤ 1099511627776 → pw_gd k28_4 k28_6 = pw_gd p q → 1 ≤ k28_4 + k28_6 → (k28_6).toNat = n28 → pw X d h 223 28 [some (.long (Int64.ofInt p)), none, some (.long (Int64.ofInt q)), none, some (.long (Int64.ofInt k28_4)), none, some (.long (Int64.ofInt k28_6)), none, k28_8, none] [] (fun h' v => h = h' ∧ ∃ a : Int, v = .inl (some (.long (Int64.ofInt a))) ∧ 1 ≤ a ∧ a ≤ 1099511627776 ∧ (a = pw_gd p q)) := by
        intro n28
        induction n28 using Nat.strongRecOn with
        | ind n28 ih28 =>
          intro k28_4 k28_6 k28_8 k28_4a k28_4b k28_6a k28_6b hx28_0 hx28_1 hm28
          refine pw_ld E (pc' := 30) (st' := [.long (Int64.ofInt k28_6)]) rfl (fun _ => rfl) ?_
          refine pw_ld E (pc' := 31) (st' := [.long (Int64.ofInt 0), .long (Int64.ofInt k28_6)]) rfl (fun _ => rfl) ?_
          refine pw_lcmpC E (pc' := 32) rfl rfl (by omega) (by omega) (by omega) (by omega) (fun c5 hc5 => ?_)
          refine pw_if E (pc' := 53) rfl (by decide) (by omega) (by omega) ?_ ?_
          · intro hc6
            change c5 = (0 : Int) at hc6
            have hy0 : k28_6 = 0 := by omega
            rw [hy0, pw_gd_0 k28_4a] at hx28_0
            refine pw_ld E (pc' := 55) (st' := [.long (Int64.ofInt k28_4)]) rfl (fun _ => rfl) ?_
            refine pw_lret E rfl ?_
            exact ⟨rfl, ⟨_, rfl, by omega, by omega, by omega⟩⟩
          · intro hc7
            change ¬ (c5 = (0 : Int)) at hc7
            refine pw_ld E (pc' := 37) (st' := [.long (Int64.ofInt k28_4)]) rfl (fun _ => rfl) ?_
            refine pw_ld E (pc' := 39) (st' := [.long (Int64.ofInt k28_6), .long (Int64.ofInt k28_4)]) rfl (fun _ => rfl) ?_
            refine pw_lremC E (pc' := 40) rfl rfl (by omega) (by omega) (by omega) (by omega) ?_
            have hd8 := pw_remB (a := k28_4) (b := k28_6) (by omega)
            refine pw_lst E (pc' := 42) (ls' := [some (.long (Int64.ofInt p)), none, some (.long (Int64.ofInt q)), none, some (.long (Int64.ofInt k28_4)), none, some (.long (Int64.ofInt k28_6)), none, some (.long (Int64.ofInt (k28_4 % k28_6))), none]) rfl rfl rfl rfl ?_
            refine pw_ld E (pc' := 44) (st' := [.long (Int64.ofInt k28_6)]) rfl (fun _ => rfl) ?_
            refine pw_lst E (pc' := 46) (ls' := [some (.long (Int64.ofInt p)), none, some (.long (Int64.ofInt q)), none, some (.long (Int64.ofInt k28_6)), none, some (.long (Int64.ofInt k28_6)), none, some (.long (Int64.ofInt (k28_4 % k28_6))), none]) rfl rfl rfl rfl ?_
            refine pw_ld E (pc' := 48) (st' := [.long (Int64.ofInt (k28_4 % k28_6))]) rfl (fun _ => rfl) ?_
            refine pw_lst E (pc' := 50) (ls' := [some (.long (Int64.ofInt p)), none, some (.long (Int64.ofInt q)), none, some (.long (Int64.ofInt k28_6)), none, some (.long (Int64.ofInt (k28_4 % k28_6))), none, some (.long (Int64.ofInt (k28_4 % k28_6))), none]) rfl rfl rfl rfl ?_
            refine pw_goto E (pc' := 28) rfl (by decide) ?_
            exact ih28 _ (by omega) (k28_6) (k28_4 % k28_6) (some (.long (Int64.ofInt (k28_4 % k28_6))))  (by omega) (by omega) (by omega) (by omega) ((pw_gd_st (by omega) (by omega)).trans hx28_0) (by omega) rfl
      exact L28 _ (p) (q) (none)  (by omega) (by omega) (by omega) (by omega) (by first | rfl | exact pw_gd_neg) (by omega) rfl
    · intro hc9
      change ¬ ((0 : Int) ≤ c3) at hc9
      exfalso; omega
  · intro hc10
    change ¬ ((0 : Int) ≤ c1) at hc10
    refine pw_ld E (pc' := 7) (st' := [.long (Int64.ofInt p)]) rfl (fun _ => rfl) ?_
    refine pw_lnegC E (pc' := 8) rfl rfl ?_
    refine pw_goto E (pc' := 12) rfl (by decide) ?_
    refine pw_lst E (pc' := 14) (ls' := [some (.long (Int64.ofInt p)), none, some (.long (Int64.ofInt q)), none, some (.long (Int64.ofInt (-p))), none, none, none, none, none]) rfl rfl rfl rfl ?_
    refine pw_ld E (pc' := 15) (st' := [.long (Int64.ofInt q)]) rfl (fun _ => rfl) ?_
    refine pw_ld E (pc' := 16) (st' := [.long (Int64.ofInt 0), .long (Int64.ofInt q)]) rfl (fun _ => rfl) ?_
    refine pw_lcmpC E (pc' := 17) rfl rfl (by omega) (by omega) (by omega) (by omega) (fun c11 hc11 => ?_)
    refine pw_if E (pc' := 25) rfl (by decide) (by omega) (by omega) ?_ ?_
    · intro hc12
      change (0 : Int) ≤ c11 at hc12
      refine pw_ld E (pc' := 26) (st' := [.long (Int64.ofInt q)]) rfl (fun _ => rfl) ?_
      refine pw_lst E (pc' := 28) (ls' := [some (.long (Int64.ofInt p)), none, some (.long (Int64.ofInt q)), none, some (.long (Int64.ofInt (-p))), none, some (.long (Int64.ofInt q)), none, none, none]) rfl rfl rfl rfl ?_
      have L28 : ∀ (n28 : Nat) (k28_4 : Int) (k28_6 : Int) (k28_8 : Option Value), 0 ≤ k28_4 → k28_4 ≤ 1099511627776 → 0 ≤ k28_6 → k28_6 ≤ 1099511627776 → pw_gd k28_4 k28_6 = pw_gd p q → 1 ≤ k28_4 + k28_6 → (k28_6).toNat = n28 → pw X d h 223 28 [some (.long (Int64.ofInt p)), none, some (.long (Int64.ofInt q)), none, some (.long (Int64.ofInt k28_4)), none, some (.long (Int64.ofInt k28_6)), none, k28_8, none] [] (fun h' v => h = h' ∧ ∃ a : Int, v = .inl (some (.long (Int64.ofInt a))) ∧ 1 ≤ a ∧ a ≤ 1099511627776 ∧ (a = pw_gd p q)) := by
        intro n28
        induction n28 using Nat.strongRecOn with
        | ind n28 ih28 =>
          intro k28_4 k28_6 k28_8 k28_4a k28_4b k28_6a k28_6b hx28_0 hx28_1 hm28
          refine pw_ld E (pc' := 30) (st' := [.long (Int64.ofInt k28_6)]) rfl (fun _ => rfl) ?_
          refine pw_ld E (pc' := 31) (st' := [.long (Int64.ofInt 0), .long (Int64.ofInt k28_6)]) rfl (fun _ => rfl) ?_
          refine pw_lcmpC E (pc' := 32) rfl rfl (by omega) (by omega) (by omega) (by omega) (fun c13 hc13 => ?_)
          refine pw_if E (pc' := 53) rfl (by decide) (by omega) (by omega) ?_ ?_
          · intro hc14
            change c13 = (0 : Int) at hc14
            have hy0 : k28_6 = 0 := by omega
            rw [hy0, pw_gd_0 k28_4a] at hx28_0
            refine pw_ld E (pc' := 55) (st' := [.long (Int64.ofInt k28_4)]) rfl (fun _ => rfl) ?_
            refine pw_lret E rfl ?_
            exact ⟨rfl, ⟨_, rfl, by omega, by omega, by omega⟩⟩
          · intro hc15
            change ¬ (c13 = (0 : Int)) at hc15
            refine pw_ld E (pc' := 37) (st' := [.long (Int64.ofInt k28_4)]) rfl (fun _ => rfl) ?_
            refine pw_ld E (pc' := 39) (st' := [.long (Int64.ofInt k28_6), .long (Int64.ofInt k28_4)]) rfl (fun _ => rfl) ?_
            refine pw_lremC E (pc' := 40) rfl rfl (by omega) (by omega) (by omega) (by omega) ?_
            have hd16 := pw_remB (a := k28_4) (b := k28_6) (by omega)
            refine pw_lst E (pc' := 42) (ls' := [some (.long (Int64.ofInt p)), none, some (.long (Int64.ofInt q)), none, some (.long (Int64.ofInt k28_4)), none, some (.long (Int64.ofInt k28_6)), none, some (.long (Int64.ofInt (k28_4 % k28_6))), none]) rfl rfl rfl rfl ?_
            refine pw_ld E (pc' := 44) (st' := [.long (Int64.ofInt k28_6)]) rfl (fun _ => rfl) ?_
            refine pw_lst E (pc' := 46) (ls' := [some (.long (Int64.ofInt p)), none, some (.long (Int64.ofInt q)), none, some (.long (Int64.ofInt k28_6)), none, some (.long (Int64.ofInt k28_6)), none, some (.long (Int64.ofInt (k28_4 % k28_6))), none]) rfl rfl rfl rfl ?_
            refine pw_ld E (pc' := 48) (st' := [.long (Int64.ofInt (k28_4 % k28_6))]) rfl (fun _ => rfl) ?_
            refine pw_lst E (pc' := 50) (ls' := [some (.long (Int64.ofInt p)), none, some (.long (Int64.ofInt q)), none, some (.long (Int64.ofInt k28_6)), none, some (.long (Int64.ofInt (k28_4 % k28_6))), none, some (.long (Int64.ofInt (k28_4 % k28_6))), none]) rfl rfl rfl rfl ?_
            refine pw_goto E (pc' := 28) rfl (by decide) ?_
            exact ih28 _ (by omega) (k28_6) (k28_4 % k28_6) (some (.long (Int64.ofInt (k28_4 % k28_6))))  (by omega) (by omega) (by omega) (by omega) ((pw_gd_st (by omega) (by omega)).trans hx28_0) (by omega) rfl
      exact L28 _ (-p) (q) (none)  (by omega) (by omega) (by omega) (by omega) (by first | rfl | exact pw_gd_neg) (by omega) rfl
    · intro hc17
      change ¬ ((0 : Int) ≤ c11) at hc17
      exfalso; omega
set_option maxHeartbeats 4000000 in
theorem cm_222_g {X : List (Nat × List Value)} {d : Nat} {h : pm_H} (hd : 2 ≤ d) (I : pw_I h) (wt : Int) (hwt1 : (-2147483648) ≤ wt) (hwt2 : wt ≤ 2147483647) (hp0 : (-1099511627776) ≤ pw_gm h 125 24) (hp1 : pw_gm h 125 24 ≤ 1099511627776) (hp2 : 1 ≤ pw_gm h 125 25) (hp3 : pw_gm h 125 25 ≤ 1099511627776) : pw X d h 222 0 [some (.ref 141), some (pw_i wt), none, none] [] (fun h' v => h = h' ∧ ∃ a : Int, v = .inl (some (.long (Int64.ofInt a))) ∧ (-1099511627776) ≤ a ∧ a ≤ 1099511627776 ∧ ((wt = 0 → a = Int.tdiv (pw_gm h 125 24) (pw_gd (pw_gm h 125 24) (pw_gm h 125 25))) ∧ (wt ≠ 0 → a = Int.tdiv (pw_gm h 125 25) (pw_gd (pw_gm h 125 24) (pw_gm h 125 25))))) := by
  have E : pm_ent 222 = some (2, 4, 12, 2, pmc_222) := rfl
  refine pw_ld E (pc' := 1) (st' := [.ref 141]) rfl (fun _ => rfl) ?_
  refine pw_getLM I E (c := 125) (k := 24) (pc' := 4) rfl rfl rfl rfl rfl rfl ?_
  refine pw_ld E (pc' := 5) (st' := [.ref 141, .long (Int64.ofInt (pw_gm h 125 24))]) rfl (fun _ => rfl) ?_
  refine pw_getM I E (c := 125) (k := 25) (pc' := 8) rfl rfl rfl rfl rfl rfl (fun hf1a hf1b => ?_)
  refine pw_call (m' := 223) (As := [.long (Int64.ofInt (pw_gm h 125 24)), .long (Int64.ofInt (pw_gm h 125 25))]) (rest := []) (ls'' := [some (.long (Int64.ofInt (pw_gm h 125 24))), none, some (.long (Int64.ofInt (pw_gm h 125 25))), none, none, none, none, none, none, none]) (Nat.le_trans (by decide) hd) E rfl (fun _ => pw_iS rfl rfl rfl) (rfl : pm_ent 223 = some (2, 10, 12, 2, pmc_223)) rfl rfl (cm_223_g (pw_dp hd (by decide)) I (pw_gm h 125 24) (by omega) (by omega) (pw_gm h 125 25) (by omega) (by omega)) ?_
  rintro u3 v2 ⟨rfl, x4, rfl, hx4a, hx4b, hx4r⟩
  refine ⟨_, rfl, ?_⟩
  show pw X d h 222 11 [some (.ref 141), some (pw_i wt), none, none] [.long (Int64.ofInt x4)] _
  change x4 = pw_gd (pw_gm h 125 24) (pw_gm h 125 25) at hx4r
  refine pw_lstn E (pc' := 12) (ls' := [some (.ref 141), some (pw_i wt), some (.long (Int64.ofInt x4)), none]) rfl rfl rfl rfl ?_
  refine pw_ld E (pc' := 13) (st' := [pw_i wt]) rfl (fun _ => rfl) ?_
  refine pw_if E (pc' := 25) rfl (by decide) (by omega) (by omega) ?_ ?_
  · intro hc5
    change wt ≠ (0 : Int) at hc5
    refine pw_ld E (pc' := 26) (st' := [.ref 141]) rfl (fun _ => rfl) ?_
    refine pw_getM I E (c := 125) (k := 25) (pc' := 29) rfl rfl rfl rfl rfl rfl (fun hf6a hf6b => ?_)
    refine pw_ld E (pc' := 30) (st' := [.long (Int64.ofInt x4), .long (Int64.ofInt (pw_gm h 125 25))]) rfl (fun _ => rfl) ?_
    refine pw_ldivT E (pc' := 31) rfl rfl (by omega) (by omega) (by omega) (by omega) ?_
    have hd7 := pw_tdB (a := pw_gm h 125 25) (b := x4) (A := 1099511627776) (by omega) (by omega) (by omega)
    refine pw_lret E rfl ?_
    exact ⟨rfl, ⟨_, rfl, by omega, by omega, by rw [← hx4r]; exact ⟨fun _ => by first | rfl | (exfalso; omega), fun _ => by first | rfl | (exfalso; omega)⟩⟩⟩
  · intro hc8
    change ¬ (wt ≠ (0 : Int)) at hc8
    refine pw_ld E (pc' := 17) (st' := [.ref 141]) rfl (fun _ => rfl) ?_
    refine pw_getLM I E (c := 125) (k := 24) (pc' := 20) rfl rfl rfl rfl rfl rfl ?_
    refine pw_ld E (pc' := 21) (st' := [.long (Int64.ofInt x4), .long (Int64.ofInt (pw_gm h 125 24))]) rfl (fun _ => rfl) ?_
    refine pw_ldivT E (pc' := 22) rfl rfl (by omega) (by omega) (by omega) (by omega) ?_
    have hd9 := pw_tdB (a := pw_gm h 125 24) (b := x4) (A := 1099511627776) (by omega) (by omega) (by omega)
    refine pw_goto E (pc' := 31) rfl (by decide) ?_
    refine pw_lret E rfl ?_
    exact ⟨rfl, ⟨_, rfl, by omega, by omega, by rw [← hx4r]; exact ⟨fun _ => by first | rfl | (exfalso; omega), fun _ => by first | rfl | (exfalso; omega)⟩⟩⟩
end
section
/-! the sides, exactly (printed by wip/tool/msides.py) -/
/-- how many of a side, and the sum of their changes -/
def pv_N (sd : Nat → Int) (s : Int) : Nat → Int
  | 0 => 0
  | k + 1 => pv_N sd s k + (if sd k = s then 1 else 0)
def pv_S (sd ch : Nat → Int) (s : Int) : Nat → Int
  | 0 => 0
  | k + 1 => pv_S sd ch s k + (if sd k = s then ch k else 0)
theorem pv_Ns {sd : Nat → Int} {s k : Int} (hk : 0 ≤ k) : (sd k.toNat = s → pv_N sd s (k + 1).toNat = pv_N sd s k.toNat + 1) ∧ (¬ (sd k.toNat = s) → pv_N sd s (k + 1).toNat = pv_N sd s k.toNat) := by
  rw [show (k + 1).toNat = k.toNat + 1 by omega]
  have e : pv_N sd s (k.toNat + 1) = pv_N sd s k.toNat + (if sd k.toNat = s then 1 else 0) := rfl
  rw [e]
  exact ⟨fun q => by rw [if_pos q], fun q => by rw [if_neg q]; omega⟩
theorem pv_Ss {sd ch : Nat → Int} {s k : Int} (hk : 0 ≤ k) : (sd k.toNat = s → pv_S sd ch s (k + 1).toNat = pv_S sd ch s k.toNat + ch k.toNat) ∧ (¬ (sd k.toNat = s) → pv_S sd ch s (k + 1).toNat = pv_S sd ch s k.toNat) := by
  rw [show (k + 1).toNat = k.toNat + 1 by omega]
  have e : pv_S sd ch s (k.toNat + 1) = pv_S sd ch s k.toNat + (if sd k.toNat = s then ch k.toNat else 0) := rfl
  rw [e]
  exact ⟨fun q => by rw [if_pos q], fun q => by rw [if_neg q]; omega⟩
theorem pv_NB {sd : Nat → Int} {s : Int} (n : Nat) : 0 ≤ pv_N sd s n ∧ pv_N sd s n ≤ n := by
  induction n with
  | zero => exact ⟨Int.le_refl _, Int.le_refl _⟩
  | succ n ih =>
    have e : pv_N sd s (n + 1) = pv_N sd s n + (if sd n = s then 1 else 0) := rfl
    rw [e]
    split <;> omega
theorem pv_SB {sd ch : Nat → Int} {s : Int} (n : Nat) (hb : ∀ k : Nat, k < n → sd k = s → -2000 ≤ ch k ∧ ch k ≤ 2000) : -2000 * (n : Int) ≤ pv_S sd ch s n ∧ pv_S sd ch s n ≤ 2000 * (n : Int) := by
  induction n with
  | zero => exact ⟨Int.le_refl _, Int.le_refl _⟩
  | succ n ih =>
    have e : pv_S sd ch s (n + 1) = pv_S sd ch s n + (if sd n = s then ch n else 0) := rfl
    have i := ih (fun k hk => hb k (by omega))
    have b := hb n (Nat.lt_succ_self n)
    rw [e]
    split
    · have := b (by assumption); omega
    · omega
theorem pv_cg {sd sd' ch ch' : Nat → Int} {s : Int} : ∀ n : Nat, (∀ k : Nat, k < n → sd k = sd' k ∧ (sd k = s → ch k = ch' k)) → pv_N sd s n = pv_N sd' s n ∧ pv_S sd ch s n = pv_S sd' ch' s n := by
  intro n
  induction n with
  | zero => intro _; exact ⟨rfl, rfl⟩
  | succ n ih =>
    intro H
    obtain ⟨i1, i2⟩ := ih (fun k hk => H k (Nat.lt_succ_of_lt hk))
    obtain ⟨h1, h2⟩ := H n (Nat.lt_succ_self n)
    refine ⟨?_, ?_⟩
    · show pv_N sd s n + (if sd n = s then 1 else 0) = pv_N sd' s n + (if sd' n = s then 1 else 0)
      rw [i1, h1]
    · show pv_S sd ch s n + (if sd n = s then ch n else 0) = pv_S sd' ch' s n + (if sd' n = s then ch' n else 0)
      rw [i2, ← h1]
      by_cases hq : sd n = s
      · rw [h2 hq]
      · rw [if_neg hq, if_neg hq]
theorem pv_stp0 {sd ch : Nat → Int} {k : Int} (hk : 0 ≤ k) (hs : sd k.toNat = 0) : pv_N sd 0 (k + 1).toNat = pv_N sd 0 k.toNat + 1 ∧ pv_N sd 1 (k + 1).toNat = pv_N sd 1 k.toNat ∧ pv_S sd ch 0 (k + 1).toNat = pv_S sd ch 0 k.toNat + ch k.toNat ∧ pv_S sd ch 1 (k + 1).toNat = pv_S sd ch 1 k.toNat := ⟨(pv_Ns hk).1 hs, (pv_Ns hk).2 (by omega), (pv_Ss hk).1 hs, (pv_Ss hk).2 (by omega)⟩
theorem pv_stp1 {sd ch : Nat → Int} {k : Int} (hk : 0 ≤ k) (hs : sd k.toNat = 1) : pv_N sd 0 (k + 1).toNat = pv_N sd 0 k.toNat ∧ pv_N sd 1 (k + 1).toNat = pv_N sd 1 k.toNat + 1 ∧ pv_S sd ch 0 (k + 1).toNat = pv_S sd ch 0 k.toNat ∧ pv_S sd ch 1 (k + 1).toNat = pv_S sd ch 1 k.toNat + ch k.toNat := ⟨(pv_Ns hk).2 (by omega), (pv_Ns hk).1 hs, (pv_Ss hk).2 (by omega), (pv_Ss hk).1 hs⟩
theorem pv_stpm {sd ch : Nat → Int} {k : Int} (hk : 0 ≤ k) (hs : sd k.toNat = -1) : pv_N sd 0 (k + 1).toNat = pv_N sd 0 k.toNat ∧ pv_N sd 1 (k + 1).toNat = pv_N sd 1 k.toNat ∧ pv_S sd ch 0 (k + 1).toNat = pv_S sd ch 0 k.toNat ∧ pv_S sd ch 1 (k + 1).toNat = pv_S sd ch 1 k.toNat := ⟨(pv_Ns hk).2 (by omega), (pv_Ns hk).2 (by omega), (pv_Ss hk).2 (by omega), (pv_Ss hk).2 (by omega)⟩
/-- the difference of the means, as a fraction -/
def pv_U (sd ch : Nat → Int) : Int := pv_S sd ch 0 24 * pv_N sd 1 24 - pv_S sd ch 1 24 * pv_N sd 0 24
def pv_D (sd : Nat → Int) : Int := pv_N sd 0 24 * pv_N sd 1 24
def pv_OK (sd : Nat → Int) : Prop := 1 ≤ pv_N sd 0 24 ∧ 1 ≤ pv_N sd 1 24
theorem pv_Ucg {sd sd' ch ch' : Nat → Int} (H : ∀ k : Nat, k < 24 → sd k = sd' k ∧ (sd k ≠ -1 → ch k = ch' k)) : pv_U sd ch = pv_U sd' ch' ∧ pv_D sd = pv_D sd' ∧ (pv_OK sd ↔ pv_OK sd') ∧ pv_N sd 0 24 = pv_N sd' 0 24 ∧ pv_N sd 1 24 = pv_N sd' 1 24 := by
  obtain ⟨a1, a2⟩ := pv_cg (sd := sd) (sd' := sd') (ch := ch) (ch' := ch') (s := 0) 24 (fun k hk => ⟨(H k hk).1, fun e => (H k hk).2 (by omega)⟩)
  obtain ⟨b1, b2⟩ := pv_cg (sd := sd) (sd' := sd') (ch := ch) (ch' := ch') (s := 1) 24 (fun k hk => ⟨(H k hk).1, fun e => (H k hk).2 (by omega)⟩)
  unfold pv_U pv_D pv_OK
  rw [a1, a2, b1, b2]
  exact ⟨rfl, rfl, Iff.rfl, rfl, rfl⟩
/-- the changes of those on a side are small -/
def pv_Bd (h : pm_H) : Prop := ∀ k : Nat, k < 24 → pw_g h 17 k ≠ -1 → -2000 ≤ pw_g h 18 k ∧ pw_g h 18 k ≤ 2000
/-- the sides are filled up to n -/
def pv_FL (g : pm_H) (sd ch : Nat → Int) (n : Int) : Prop := ∀ k : Nat, k < 24 → ((k : Int) < n → pw_g g 17 k = sd k ∧ (sd k ≠ -1 → pw_g g 18 k = ch k)) ∧ (n ≤ (k : Int) → pw_g g 17 k = -1)
theorem pv_FL.z {g : pm_H} {sd ch : Nat → Int} (H : ∀ j : Nat, j < 24 → pw_g g 17 j = -1) : pv_FL g sd ch 0 := fun k hk => ⟨fun q => absurd q (by omega), fun _ => H k hk⟩
theorem pv_FL.no {g : pm_H} {sd ch : Nat → Int} {n : Int} (H : pv_FL g sd ch n) (h0 : 0 ≤ n) (hs : sd n.toNat = -1) : pv_FL g sd ch (n + 1) := by
  intro k hk
  refine ⟨fun q => ?_, fun q => (H k hk).2 (by omega)⟩
  rcases (by omega : (k : Int) < n ∨ k = n.toNat) with e | e
  · exact (H k hk).1 e
  · have h1 := (H k hk).2 (by omega)
    rw [e] at h1 ⊢
    exact ⟨h1.trans hs.symm, fun z => absurd hs z⟩
theorem pv_FL.yes {g g' : pm_H} {sd ch : Nat → Int} {n s c : Int} (H : pv_FL g sd ch n) (h0 : 0 ≤ n) (u1 : pw_up g g' 17 n s) (u2 : pw_up g g' 18 n c) (hs : sd n.toNat = s) (hc : ch n.toNat = c) : pv_FL g' sd ch (n + 1) := by
  intro k hk
  rcases (by omega : k = n.toNat ∨ k ≠ n.toNat) with e | e
  · rw [e, u1.1, u2.1]
    exact ⟨fun _ => ⟨hs.symm, fun _ => hc.symm⟩, fun q => absurd q (by omega)⟩
  · rw [u1.2 k e, u2.2 k e]
    exact ⟨fun q => (H k hk).1 (by omega), fun q => (H k hk).2 (by omega)⟩
/-- one left out -/
def pv_lo (sd : Nat → Int) (wo : Int) (k : Nat) : Int := if (k : Int) = wo then -1 else sd k
theorem pv_lo_no {sd : Nat → Int} : pv_lo sd (-1) = sd := funext (fun k => if_neg (by omega))
theorem pv_FL.lo {g g' : pm_H} {sd ch : Nat → Int} {wo : Int} (H : pv_FL g sd ch 24) (h0 : 0 ≤ wo) (u1 : pw_up g g' 17 wo (-1)) (u2 : ∀ j : Nat, pw_g g' 18 j = pw_g g 18 j) : pv_FL g' (pv_lo sd wo) ch 24 := by
  intro k hk
  refine ⟨fun _ => ?_, fun q => absurd q (by omega)⟩
  unfold pv_lo
  rcases (by omega : k = wo.toNat ∨ k ≠ wo.toNat) with e | e
  · rw [if_pos (by omega), e, u1.1]
    exact ⟨rfl, fun z => absurd rfl z⟩
  · rw [if_neg (by omega), u1.2 k e, u2 k]
    exact (H k hk).1 (by omega)
theorem pv_FL.eq {g : pm_H} {sd ch : Nat → Int} (H : pv_FL g sd ch 24) : pv_U (pw_g g 17) (pw_g g 18) = pv_U sd ch ∧ pv_D (pw_g g 17) = pv_D sd ∧ (pv_OK (pw_g g 17) ↔ pv_OK sd) ∧ pv_N (pw_g g 17) 0 24 = pv_N sd 0 24 ∧ pv_N (pw_g g 17) 1 24 = pv_N sd 1 24 := pv_Ucg (fun k hk => by
  obtain ⟨a, b⟩ := (H k hk).1 (by omega)
  exact ⟨a, fun q => b (by rw [← a]; exact q)⟩)
theorem pv_FL.bd {g : pm_H} {sd ch : Nat → Int} (H : pv_FL g sd ch 24) (hb : ∀ k : Nat, k < 24 → -2000 ≤ ch k ∧ ch k ≤ 2000) : pv_Bd g := by
  intro k hk hn
  obtain ⟨a, b⟩ := (H k hk).1 (by omega)
  rw [b (by rw [← a]; exact hn)]
  exact hb k hk
theorem pv_fill {h : pm_H} {c n j : Nat} {b : Int} (hc : c < h.length) (hj : j < n) (h1 : -2147483648 ≤ b) (h2 : b ≤ 2147483647) : pw_g (h.set c (.inl (0, List.replicate n (pw_i b)))) c j = b := by
  unfold pw_g pw_at
  rw [List.getElem?_set_self hc]
  show pw_iv ((List.replicate n (pw_i b))[j]?) = b
  rw [List.getElem?_replicate, if_pos hj]
  exact pw_toInt h1 h2
theorem pv_cl {h : pm_H} {c : Nat} {s : pw_S} (I : pw_I h) (hs : pw_T[c]? = some s) : c < h.length := by
  obtain ⟨q, h1, -⟩ := I.1 c s hs
  exact (List.getElem?_eq_some_iff.mp h1).1
theorem pv_hcB {v t : Int} (h1 : v ≤ 9999) (h2 : 0 ≤ t) (h3 : t ≤ 10) : 0 ≤ pw_hc v t ∧ pw_hc v t ≤ 2000 := by
  unfold pw_hc
  have := pw_mulB (a := max 0 v % 100) (b := t) (A := 99) (B := 10) (by omega) (by omega) h2 h3
  omega
/-- the sides by calls, of the class -/
def pv_sdc (h : pm_H) (b e : Int) (k : Nat) : Int := if pw_g h 2 k = 1 ∧ pw_g h 11 ((k : Int) * 12 + b).toNat ≠ -2 ∧ pw_g h 11 ((k : Int) * 12 + e).toNat ≠ -2 then pw_g h 4 k else -1
def pv_chc (h : pm_H) (b e : Int) (k : Nat) : Int := pw_hc (pw_g h 11 ((k : Int) * 12 + e).toNat) (pw_g h 0 6) - pw_hc (pw_g h 11 ((k : Int) * 12 + b).toNat) (pw_g h 0 6)
theorem pv_sdcI {h : pm_H} {b e k : Int} (hk : 0 ≤ k) : ((pw_g h 2 k.toNat = 1 ∧ pw_g h 11 (k * 12 + b).toNat ≠ -2 ∧ pw_g h 11 (k * 12 + e).toNat ≠ -2) → pv_sdc h b e k.toNat = pw_g h 4 k.toNat) ∧ (¬ (pw_g h 2 k.toNat = 1 ∧ pw_g h 11 (k * 12 + b).toNat ≠ -2 ∧ pw_g h 11 (k * 12 + e).toNat ≠ -2) → pv_sdc h b e k.toNat = -1) := by
  unfold pv_sdc
  rw [show ((k.toNat : Nat) : Int) = k by omega]
  exact ⟨fun q => if_pos q, fun q => if_neg q⟩
theorem pv_chcI {h : pm_H} {b e k : Int} (hk : 0 ≤ k) : pv_chc h b e k.toNat = pw_hc (pw_g h 11 (k * 12 + e).toNat) (pw_g h 0 6) - pw_hc (pw_g h 11 (k * 12 + b).toNat) (pw_g h 0 6) := by
  unfold pv_chc
  rw [show ((k.toNat : Nat) : Int) = k by omega]
theorem pv_chcB {h : pm_H} {b e : Int} (I : pw_I h) (hb0 : 0 ≤ b) (hb1 : b ≤ 11) (he0 : 0 ≤ e) (he1 : e ≤ 11) : ∀ k : Nat, k < 24 → -2000 ≤ pv_chc h b e k ∧ pv_chc h b e k ≤ 2000 := by
  intro k hk
  unfold pv_chc
  have t := pw_gI (c := 0) (k := 6) I rfl rfl
  have v1 := pw_gA (c := 11) (j := (k : Int) * 12 + b) I rfl (by decide) (by omega) (by omega)
  have v2 := pw_gA (c := 11) (j := (k : Int) * 12 + e) I rfl (by decide) (by omega) (by omega)
  have w1 := pv_hcB (v := pw_g h 11 ((k : Int) * 12 + b).toNat) (t := pw_g h 0 6) (by omega) (by omega) (by omega)
  have w2 := pv_hcB (v := pw_g h 11 ((k : Int) * 12 + e).toNat) (t := pw_g h 0 6) (by omega) (by omega) (by omega)
  omega
/-- a part of a fraction in lowest terms -/
def pv_LW (U D wt : Int) : Int := if wt = 0 then Int.tdiv U (pw_gd U D) else Int.tdiv D (pw_gd U D)
theorem pv_LW0 {U D wt : Int} (h : wt = 0) : pv_LW U D wt = Int.tdiv U (pw_gd U D) := if_pos h
theorem pv_LW1 {U D wt : Int} (h : wt ≠ 0) : pv_LW U D wt = Int.tdiv D (pw_gd U D) := if_neg h

set_option maxHeartbeats 4000000 in
theorem cm_84_s {X : List (Nat × List Value)} {d : Nat} {h : pm_H} (hd : 1 ≤ d) (I : pw_I h) (sd : Int) (hsd1 : (-2147483648) ≤ sd) (hsd2 : sd ≤ 2147483647) : pw X d h 84 0 [some (.ref 32), some (pw_i sd), none, none] [] (fun h' v => h = h' ∧ ∃ a : Int, v = .inl (some (pw_i a)) ∧ 0 ≤ a ∧ a ≤ 24 ∧ (a = pv_N (pw_g h 17) sd 24)) := by
  have E : pm_ent 84 = some (2, 4, 8, 0, pmc_84) := rfl
  refine pw_ld E (pc' := 1) (st' := [pw_i 0]) rfl (fun _ => rfl) ?_
  refine pw_istn E (pc' := 2) (ls' := [some (.ref 32), some (pw_i sd), some (pw_i 0), none]) rfl rfl rfl rfl ?_
  refine pw_ld E (pc' := 3) (st' := [pw_i 0]) rfl (fun _ => rfl) ?_
  refine pw_istn E (pc' := 4) (ls' := [some (.ref 32), some (pw_i sd), some (pw_i 0), some (pw_i 0)]) rfl rfl rfl rfl ?_
  have L4 : ∀ (n4 : Nat) (k4_2 : Int) (k4_3 : Int), 0 ≤ k4_2 → k4_2 ≤ 24 → 0 ≤ k4_3 → k4_3 ≤ 24 → k4_2 ≤ k4_3 → k4_2 = pv_N (pw_g h 17) sd (k4_3).toNat → (24 - k4_3).toNat = n4 → pw X d h 84 4 [some (.ref 32), some (pw_i sd), some (pw_i k4_2), some (pw_i k4_3)] [] (fun h' v => h = h' ∧ ∃ a : Int, v = .inl (some (pw_i a)) ∧ 0 ≤ a ∧ a ≤ 24 ∧ (a = pv_N (pw_g h 17) sd 24)) := by
    intro n4
    induction n4 using Nat.strongRecOn with
    | ind n4 ih4 =>
      intro k4_2 k4_3 k4_2a k4_2b k4_3a k4_3b hx4_0 hx4_1 hm4
      refine pw_ld E (pc' := 5) (st' := [pw_i k4_3]) rfl (fun _ => rfl) ?_
      refine pw_bip E (pc' := 7) rfl rfl (by decide) ?_
      refine pw_if2 E (pc' := 34) rfl (by decide) (by omega) (by omega) (by decide) (by decide) ?_ ?_
      · intro hc1
        change (24 : Int) ≤ k4_3 at hc1
        rw [show (k4_3).toNat = 24 by omega] at hx4_1
        refine pw_ld E (pc' := 35) (st' := [pw_i k4_2]) rfl (fun _ => rfl) ?_
        refine pw_iret E rfl ?_
        exact ⟨rfl, ⟨_, rfl, by omega, by omega, by omega⟩⟩
      · intro hc2
        change ¬ ((24 : Int) ≤ k4_3) at hc2
        have o1 := pv_Ns (sd := pw_g h 17) (s := sd) (k := k4_3) (by omega)
        refine pw_ld E (pc' := 11) (st' := [pw_i k4_2]) rfl (fun _ => rfl) ?_
        refine pw_ld E (pc' := 12) (st' := [.ref 32, pw_i k4_2]) rfl (fun _ => rfl) ?_
        refine pw_getR (b := 33) I E (c := 16) (k := 0) (pc' := 15) rfl rfl rfl rfl rfl rfl rfl ?_
        refine pw_ld E (pc' := 16) (st' := [pw_i k4_3, .ref 33, pw_i k4_2]) rfl (fun _ => rfl) ?_
        refine pw_ald2 I E (c := 17) (pc' := 17) rfl rfl rfl (by decide) rfl (by decide) (by omega) (by omega) rfl (fun hf3a hf3b => ?_)
        refine pw_ld E (pc' := 18) (st' := [pw_i sd, pw_i (pw_g h 17 (k4_3.toNat)), pw_i k4_2]) rfl (fun _ => rfl) ?_
        refine pw_if2 E (pc' := 25) rfl (by decide) (by omega) (by omega) (by omega) (by omega) ?_ ?_
        · intro hc4
          change pw_g h 17 (k4_3.toNat) ≠ sd at hc4
          refine pw_ld E (pc' := 26) (st' := [pw_i 0, pw_i k4_2]) rfl (fun _ => rfl) ?_
          refine pw_add E (pc' := 27) rfl rfl ?_
          refine pw_istn E (pc' := 28) (ls' := [some (.ref 32), some (pw_i sd), some (pw_i (k4_2 + 0)), some (pw_i k4_3)]) rfl rfl rfl rfl ?_
          refine pw_inc E (pc' := 31) (ls' := [some (.ref 32), some (pw_i sd), some (pw_i (k4_2 + 0)), some (pw_i (k4_3 + 1))]) rfl rfl rfl rfl ?_
          refine pw_goto E (pc' := 4) rfl (by decide) ?_
          exact ih4 _ (by omega) (k4_2 + 0) (k4_3 + 1)  (by omega) (by omega) (by omega) (by omega) (by omega) (by omega) rfl
        · intro hc5
          change ¬ (pw_g h 17 (k4_3.toNat) ≠ sd) at hc5
          refine pw_ld E (pc' := 22) (st' := [pw_i 1, pw_i k4_2]) rfl (fun _ => rfl) ?_
          refine pw_goto E (pc' := 26) rfl (by decide) ?_
          refine pw_add E (pc' := 27) rfl rfl ?_
          refine pw_istn E (pc' := 28) (ls' := [some (.ref 32), some (pw_i sd), some (pw_i (k4_2 + 1)), some (pw_i k4_3)]) rfl rfl rfl rfl ?_
          refine pw_inc E (pc' := 31) (ls' := [some (.ref 32), some (pw_i sd), some (pw_i (k4_2 + 1)), some (pw_i (k4_3 + 1))]) rfl rfl rfl rfl ?_
          refine pw_goto E (pc' := 4) rfl (by decide) ?_
          exact ih4 _ (by omega) (k4_2 + 1) (k4_3 + 1)  (by omega) (by omega) (by omega) (by omega) (by omega) (by omega) rfl
  exact L4 _ (0) (0)  (by omega) (by omega) (by omega) (by omega) (by omega) rfl rfl
set_option maxHeartbeats 4000000 in
theorem cm_85_s {X : List (Nat × List Value)} {d : Nat} {h : pm_H} (hd : 1 ≤ d) (I : pw_I h) (sd : Int) (hsd1 : 0 ≤ sd) (hsd2 : sd ≤ 1) (hp0 : pv_Bd h) : pw X d h 85 0 [some (.ref 32), some (pw_i sd), none, none] [] (fun h' v => h = h' ∧ ∃ a : Int, v = .inl (some (pw_i a)) ∧ (-48000) ≤ a ∧ a ≤ 48000 ∧ (a = pv_S (pw_g h 17) (pw_g h 18) sd 24)) := by
  have E : pm_ent 85 = some (2, 4, 8, 0, pmc_85) := rfl
  refine pw_ld E (pc' := 1) (st' := [pw_i 0]) rfl (fun _ => rfl) ?_
  refine pw_istn E (pc' := 2) (ls' := [some (.ref 32), some (pw_i sd), some (pw_i 0), none]) rfl rfl rfl rfl ?_
  refine pw_ld E (pc' := 3) (st' := [pw_i 0]) rfl (fun _ => rfl) ?_
  refine pw_istn E (pc' := 4) (ls' := [some (.ref 32), some (pw_i sd), some (pw_i 0), some (pw_i 0)]) rfl rfl rfl rfl ?_
  have L4 : ∀ (n4 : Nat) (k4_2 : Int) (k4_3 : Int), (-48000) ≤ k4_2 → k4_2 ≤ 48000 → 0 ≤ k4_3 → k4_3 ≤ 24 → (-2000) * k4_3 ≤ k4_2 → k4_2 ≤ 2000 * k4_3 → k4_2 = pv_S (pw_g h 17) (pw_g h 18) sd (k4_3).toNat → (24 - k4_3).toNat = n4 → pw X d h 85 4 [some (.ref 32), some (pw_i sd), some (pw_i k4_2), some (pw_i k4_3)] [] (fun h' v => h = h' ∧ ∃ a : Int, v = .inl (some (pw_i a)) ∧ (-48000) ≤ a ∧ a ≤ 48000 ∧ (a = pv_S (pw_g h 17) (pw_g h 18) sd 24)) := by
    intro n4
    induction n4 using Nat.strongRecOn with
    | ind n4 ih4 =>
      intro k4_2 k4_3 k4_2a k4_2b k4_3a k4_3b hx4_0 hx4_1 hx4_2 hm4
      refine pw_ld E (pc' := 5) (st' := [pw_i k4_3]) rfl (fun _ => rfl) ?_
      refine pw_bip E (pc' := 7) rfl rfl (by decide) ?_
      refine pw_if2 E (pc' := 39) rfl (by decide) (by omega) (by omega) (by decide) (by decide) ?_ ?_
      · intro hc1
        change (24 : Int) ≤ k4_3 at hc1
        rw [show (k4_3).toNat = 24 by omega] at hx4_2
        refine pw_ld E (pc' := 40) (st' := [pw_i k4_2]) rfl (fun _ => rfl) ?_
        refine pw_iret E rfl ?_
        exact ⟨rfl, ⟨_, rfl, by omega, by omega, by omega⟩⟩
      · intro hc2
        change ¬ ((24 : Int) ≤ k4_3) at hc2
        have o1 := pv_Ss (sd := pw_g h 17) (ch := pw_g h 18) (s := sd) (k := k4_3) (by omega)
        refine pw_ld E (pc' := 11) (st' := [pw_i k4_2]) rfl (fun _ => rfl) ?_
        refine pw_ld E (pc' := 12) (st' := [.ref 32, pw_i k4_2]) rfl (fun _ => rfl) ?_
        refine pw_getR (b := 33) I E (c := 16) (k := 0) (pc' := 15) rfl rfl rfl rfl rfl rfl rfl ?_
        refine pw_ld E (pc' := 16) (st' := [pw_i k4_3, .ref 33, pw_i k4_2]) rfl (fun _ => rfl) ?_
        refine pw_ald2 I E (c := 17) (pc' := 17) rfl rfl rfl (by decide) rfl (by decide) (by omega) (by omega) rfl (fun hf3a hf3b => ?_)
        refine pw_ld E (pc' := 18) (st' := [pw_i sd, pw_i (pw_g h 17 (k4_3.toNat)), pw_i k4_2]) rfl (fun _ => rfl) ?_
        refine pw_if2 E (pc' := 30) rfl (by decide) (by omega) (by omega) (by omega) (by omega) ?_ ?_
        · intro hc4
          change pw_g h 17 (k4_3.toNat) ≠ sd at hc4
          refine pw_ld E (pc' := 31) (st' := [pw_i 0, pw_i k4_2]) rfl (fun _ => rfl) ?_
          refine pw_add E (pc' := 32) rfl rfl ?_
          refine pw_istn E (pc' := 33) (ls' := [some (.ref 32), some (pw_i sd), some (pw_i (k4_2 + 0)), some (pw_i k4_3)]) rfl rfl rfl rfl ?_
          refine pw_inc E (pc' := 36) (ls' := [some (.ref 32), some (pw_i sd), some (pw_i (k4_2 + 0)), some (pw_i (k4_3 + 1))]) rfl rfl rfl rfl ?_
          refine pw_goto E (pc' := 4) rfl (by decide) ?_
          exact ih4 _ (by omega) (k4_2 + 0) (k4_3 + 1)  (by omega) (by omega) (by omega) (by omega) (by omega) (by omega) (by omega) rfl
        · intro hc5
          change ¬ (pw_g h 17 (k4_3.toNat) ≠ sd) at hc5
          have o2 := hp0 (k4_3).toNat (by omega) (by omega)
          refine pw_ld E (pc' := 22) (st' := [.ref 32, pw_i k4_2]) rfl (fun _ => rfl) ?_
          refine pw_getR (b := 34) I E (c := 16) (k := 1) (pc' := 25) rfl rfl rfl rfl rfl rfl rfl ?_
          refine pw_ld E (pc' := 26) (st' := [pw_i k4_3, .ref 34, pw_i k4_2]) rfl (fun _ => rfl) ?_
          refine pw_ald2 I E (c := 18) (pc' := 27) rfl rfl rfl (by decide) rfl (by decide) (by omega) (by omega) rfl (fun hf6a hf6b => ?_)
          refine pw_goto E (pc' := 31) rfl (by decide) ?_
          refine pw_add E (pc' := 32) rfl rfl ?_
          refine pw_istn E (pc' := 33) (ls' := [some (.ref 32), some (pw_i sd), some (pw_i (k4_2 + (pw_g h 18 (k4_3.toNat)))), some (pw_i k4_3)]) rfl rfl rfl rfl ?_
          refine pw_inc E (pc' := 36) (ls' := [some (.ref 32), some (pw_i sd), some (pw_i (k4_2 + (pw_g h 18 (k4_3.toNat)))), some (pw_i (k4_3 + 1))]) rfl rfl rfl rfl ?_
          refine pw_goto E (pc' := 4) rfl (by decide) ?_
          exact ih4 _ (by omega) (k4_2 + (pw_g h 18 (k4_3.toNat))) (k4_3 + 1)  (by omega) (by omega) (by omega) (by omega) (by omega) (by omega) (by omega) rfl
  exact L4 _ (0) (0)  (by omega) (by omega) (by omega) (by omega) (by omega) (by omega) rfl rfl
set_option maxHeartbeats 4000000 in
theorem cm_81_s {X : List (Nat × List Value)} {d : Nat} {h : pm_H} (hd : 1 ≤ d) (I : pw_I h)  : pw X d h 81 0 [some (.ref 32)] [] (fun h' v => pw_I h' ∧ pw_E [17] h h' ∧ (∀ j : Nat, j < 24 → pw_g h' 17 j = -1) ∧ (v = .inl none)) := by
  have E : pm_ent 81 = some (1, 1, 8, 4, pmc_81) := rfl
  have E0 : pw_E [17] h h := pw_E.rf _ _
  refine pw_ld E (pc' := 1) (st' := [.ref 32]) rfl (fun _ => rfl) ?_
  refine pw_getR (b := 33) I E (c := 16) (k := 0) (pc' := 4) rfl rfl rfl rfl rfl rfl rfl ?_
  refine pw_ld E (pc' := 5) (st' := [pw_i ((-1)), .ref 33]) rfl (fun _ => rfl) ?_
  refine pw_fill I E (c := 17) rfl rfl rfl (by decide) (by omega) (by omega) (by omega) (by omega) rfl rfl ?_
  intro h1I h1E
  generalize hfl : h.set 17 (.inl (0, List.replicate 24 (pw_i ((-1))))) = h1 at h1I h1E ⊢
  have h1F := E0.tr (h1E.wk (W' := [17]) (by first | rfl | simp))
  refine pw_vret E rfl ?_
  exact ⟨h1I, h1F, (fun j hj => by rw [← hfl]; exact pv_fill (pv_cl I (c := 17) rfl) hj (by decide) (by decide)), rfl⟩
set_option maxHeartbeats 4000000 in
theorem cm_82_s {X : List (Nat × List Value)} {d : Nat} {h : pm_H} (hd : 1 ≤ d) (I : pw_I h) (k : Int) (hk1 : 0 ≤ k) (hk2 : k ≤ 23) (sd : Int) (hsd1 : (-1) ≤ sd) (hsd2 : sd ≤ 1) (ch : Int) (hch1 : (-2147483648) ≤ ch) (hch2 : ch ≤ 2147483647) : pw X d h 82 0 [some (.ref 32), some (pw_i k), some (pw_i sd), some (pw_i ch)] [] (fun h' v => pw_I h' ∧ pw_E [17, 18] h h' ∧ (pw_up h h' 17 (k) (sd) ∧ pw_up h h' 18 (k) (ch)) ∧ (v = .inl none)) := by
  have E : pm_ent 82 = some (4, 4, 8, 4, pmc_82) := rfl
  have E0 : pw_E [17, 18] h h := pw_E.rf _ _
  refine pw_ld E (pc' := 1) (st' := [.ref 32]) rfl (fun _ => rfl) ?_
  refine pw_getR (b := 33) I E (c := 16) (k := 0) (pc' := 4) rfl rfl rfl rfl rfl rfl rfl ?_
  refine pw_ld E (pc' := 5) (st' := [pw_i k, .ref 33]) rfl (fun _ => rfl) ?_
  refine pw_ld E (pc' := 6) (st' := [pw_i sd, pw_i k, .ref 33]) rfl (fun _ => rfl) ?_
  refine pw_ast0 I E (c := 17) (pc' := 7) rfl rfl rfl (by decide) rfl (by decide) (by omega) (by omega) rfl (by omega) (by omega) (by omega) (by omega) rfl ?_
  intro h1I h1E
  generalize h1w : pw_w h 17 (k.toNat) (pw_i sd) = h1 at h1I h1E ⊢
  have h1F := E0.tr (h1E.wk (W' := [17, 18]) (by first | rfl | simp))
  refine pw_ld E (pc' := 8) (st' := [.ref 32]) rfl (fun _ => rfl) ?_
  refine pw_getR (b := 34) h1I E (c := 16) (k := 1) (pc' := 11) rfl rfl rfl rfl rfl rfl rfl ?_
  refine pw_ld E (pc' := 12) (st' := [pw_i k, .ref 34]) rfl (fun _ => rfl) ?_
  refine pw_ld E (pc' := 13) (st' := [pw_i ch, pw_i k, .ref 34]) rfl (fun _ => rfl) ?_
  refine pw_ast0 h1I E (c := 18) (pc' := 14) rfl rfl rfl (by decide) rfl (by decide) (by omega) (by omega) rfl (by omega) (by omega) (by omega) (by omega) rfl ?_
  intro h2I h2E
  generalize h2w : pw_w h1 18 (k.toNat) (pw_i ch) = h2 at h2I h2E ⊢
  have h2F := h1F.tr (h2E.wk (W' := [17, 18]) (by first | rfl | simp))
  refine pw_vret E rfl ?_
  have hl4 : ∀ j : Nat, pw_g h2 17 j = pw_g h1 17 j := fun j => (by rw [← h2w]; exact pw_g_ne (by omega) : pw_g h2 17 j = pw_g h1 17 j)
  have hl5 : ∀ j : Nat, pw_g h 17 j = pw_g h 17 j := fun j => rfl
  have hu3a : pw_g h1 17 (k.toNat) = sd := by rw [← h1w]; exact pw_g_eqA I rfl (by omega) (by omega) (by omega)
  have hu3b : ∀ j : Nat, j ≠ k.toNat → pw_g h1 17 j = pw_g h 17 j := fun j hj => by rw [← h1w]; exact pw_g_ne (fun q => hj q.2.symm)
  have hl7 : ∀ j : Nat, pw_g h2 18 j = pw_g h2 18 j := fun j => rfl
  have hl8 : ∀ j : Nat, pw_g h1 18 j = pw_g h 18 j := fun j => (by rw [← h1w]; exact pw_g_ne (by omega) : pw_g h1 18 j = pw_g h 18 j)
  have hu6a : pw_g h2 18 (k.toNat) = ch := by rw [← h2w]; exact pw_g_eqA h1I rfl (by omega) (by omega) (by omega)
  have hu6b : ∀ j : Nat, j ≠ k.toNat → pw_g h2 18 j = pw_g h1 18 j := fun j hj => by rw [← h2w]; exact pw_g_ne (fun q => hj q.2.symm)
  exact ⟨h2I, h2F, ⟨⟨(hl4 _).trans hu3a, fun j hj => (hl4 j).trans ((hu3b j hj).trans (hl5 j))⟩, ⟨(hl7 _).trans hu6a, fun j hj => (hl7 j).trans ((hu6b j hj).trans (hl8 j))⟩⟩, rfl⟩
set_option maxHeartbeats 4000000 in
theorem cm_83_22s {X : List (Nat × List Value)} {d : Nat} {h : pm_H} (hd : 3 ≤ d) (I : pw_I h) (hp0 : pv_Bd h) : pw X d h 83 0 [some (.ref 32), some (.ref 38), none, none, none, none] [] (fun h' v => pw_I h' ∧ pw_E [22] h h' ∧ ∃ a : Int, v = .inl (some (pw_i a)) ∧ 0 ≤ a ∧ a ≤ 1 ∧ ((a = 0 ∧ ¬ pv_OK (pw_g h 17)) ∨ (a = 1 ∧ pv_OK (pw_g h 17) ∧ pw_gm h' 22 0 = Int.tdiv (pv_U (pw_g h 17) (pw_g h 18)) (pw_gd (pv_U (pw_g h 17) (pw_g h 18)) (pv_D (pw_g h 17))) ∧ pw_gm h' 22 1 = Int.tdiv (pv_D (pw_g h 17)) (pw_gd (pv_U (pw_g h 17) (pw_g h 18)) (pv_D (pw_g h 17)))))) := by
  have E : pm_ent 83 = some (2, 6, 8, 1, pmc_83) := rfl
  have E0 : pw_E [22] h h := pw_E.rf _ _
  have hB := hp0
  refine pw_ld E (pc' := 1) (st' := [.ref 32]) rfl (fun _ => rfl) ?_
  refine pw_ld E (pc' := 2) (st' := [pw_i 0, .ref 32]) rfl (fun _ => rfl) ?_
  obtain ⟨f1l, f1h, -⟩ := pw_obj (c := 16) I rfl
  refine pw_call (m' := 84) (As := [.ref 32, pw_i 0]) (rest := []) (ls'' := [some (.ref 32), some (pw_i 0), none, none]) (Nat.le_trans (by decide) hd) E rfl (fun _ => pw_iV rfl rfl rfl rfl (pw_cellI f1h rfl)) (rfl : pm_ent 84 = some (2, 4, 8, 0, pmc_84)) rfl rfl (cm_84_s (pw_dp hd (by decide)) I (0) (by omega) (by omega)) ?_
  rintro u3 v2 ⟨rfl, x4, rfl, hx4a, hx4b, hx4r⟩
  refine ⟨_, rfl, ?_⟩
  show pw X d h 83 5 [some (.ref 32), some (.ref 38), none, none, none, none] [pw_i x4] _
  change x4 = pv_N (pw_g h 17) 0 24 at hx4r
  refine pw_i2l E (pc' := 6) rfl rfl (by omega) (by omega) ?_
  refine pw_lstn E (pc' := 7) (ls' := [some (.ref 32), some (.ref 38), some (.long (Int64.ofInt x4)), none, none, none]) rfl rfl rfl rfl ?_
  refine pw_ld E (pc' := 8) (st' := [.ref 32]) rfl (fun _ => rfl) ?_
  refine pw_ld E (pc' := 9) (st' := [pw_i 1, .ref 32]) rfl (fun _ => rfl) ?_
  obtain ⟨f5l, f5h, -⟩ := pw_obj (c := 16) I rfl
  refine pw_call (m' := 84) (As := [.ref 32, pw_i 1]) (rest := []) (ls'' := [some (.ref 32), some (pw_i 1), none, none]) (Nat.le_trans (by decide) hd) E rfl (fun _ => pw_iV rfl rfl rfl rfl (pw_cellI f5h rfl)) (rfl : pm_ent 84 = some (2, 4, 8, 0, pmc_84)) rfl rfl (cm_84_s (pw_dp hd (by decide)) I (1) (by omega) (by omega)) ?_
  rintro u7 v6 ⟨rfl, x8, rfl, hx8a, hx8b, hx8r⟩
  refine ⟨_, rfl, ?_⟩
  show pw X d h 83 12 [some (.ref 32), some (.ref 38), some (.long (Int64.ofInt x4)), none, none, none] [pw_i x8] _
  change x8 = pv_N (pw_g h 17) 1 24 at hx8r
  refine pw_i2l E (pc' := 13) rfl rfl (by omega) (by omega) ?_
  refine pw_lst E (pc' := 15) (ls' := [some (.ref 32), some (.ref 38), some (.long (Int64.ofInt x4)), none, some (.long (Int64.ofInt x8)), none]) rfl rfl rfl rfl ?_
  refine pw_ld E (pc' := 16) (st' := [.long (Int64.ofInt x4)]) rfl (fun _ => rfl) ?_
  refine pw_ld E (pc' := 17) (st' := [.long (Int64.ofInt 0), .long (Int64.ofInt x4)]) rfl (fun _ => rfl) ?_
  refine pw_lcmpC E (pc' := 18) rfl rfl (by omega) (by omega) (by omega) (by omega) (fun c9 hc9 => ?_)
  refine pw_if E (pc' := 28) rfl (by decide) (by omega) (by omega) ?_ ?_
  · intro hc10
    change c9 = (0 : Int) at hc10
    refine pw_ld E (pc' := 29) (st' := [pw_i 0]) rfl (fun _ => rfl) ?_
    refine pw_zret E rfl (by omega) ?_
    exact ⟨I, E0, ⟨_, rfl, by omega, by omega, Or.inl ⟨rfl, fun q => by have q1 := q.1; have q2 := q.2; omega⟩⟩⟩
  · intro hc11
    change ¬ (c9 = (0 : Int)) at hc11
    refine pw_ld E (pc' := 23) (st' := [.long (Int64.ofInt x8)]) rfl (fun _ => rfl) ?_
    refine pw_ld E (pc' := 24) (st' := [.long (Int64.ofInt 0), .long (Int64.ofInt x8)]) rfl (fun _ => rfl) ?_
    refine pw_lcmpC E (pc' := 25) rfl rfl (by omega) (by omega) (by omega) (by omega) (fun c12 hc12 => ?_)
    refine pw_if E (pc' := 30) rfl (by decide) (by omega) (by omega) ?_ ?_
    · intro hc13
      change c12 ≠ (0 : Int) at hc13
      refine pw_ld E (pc' := 31) (st' := [.ref 38]) rfl (fun _ => rfl) ?_
      refine pw_ld E (pc' := 32) (st' := [.ref 32, .ref 38]) rfl (fun _ => rfl) ?_
      refine pw_ld E (pc' := 33) (st' := [pw_i 0, .ref 32, .ref 38]) rfl (fun _ => rfl) ?_
      obtain ⟨f14l, f14h, -⟩ := pw_obj (c := 16) I rfl
      refine pw_call (m' := 85) (As := [.ref 32, pw_i 0]) (rest := [.ref 38]) (ls'' := [some (.ref 32), some (pw_i 0), none, none]) (Nat.le_trans (by decide) hd) E rfl (fun _ => pw_iV rfl rfl rfl rfl (pw_cellI f14h rfl)) (rfl : pm_ent 85 = some (2, 4, 8, 0, pmc_85)) rfl rfl (cm_85_s (pw_dp hd (by decide)) I (0) (by omega) (by omega) hB) ?_
      rintro u16 v15 ⟨rfl, x17, rfl, hx17a, hx17b, hx17r⟩
      refine ⟨_, rfl, ?_⟩
      show pw X d h 83 36 [some (.ref 32), some (.ref 38), some (.long (Int64.ofInt x4)), none, some (.long (Int64.ofInt x8)), none] [pw_i x17, .ref 38] _
      change x17 = pv_S (pw_g h 17) (pw_g h 18) 0 24 at hx17r
      refine pw_i2l E (pc' := 37) rfl rfl (by omega) (by omega) ?_
      refine pw_ld E (pc' := 39) (st' := [.long (Int64.ofInt x8), .long (Int64.ofInt x17), .ref 38]) rfl (fun _ => rfl) ?_
      have hm18 := pw_mulS (a := x17) (b := x8) (A := 48000) (B := 24) (by omega) (by omega) (by omega) (by omega)
      refine pw_lmul E (pc' := 40) rfl rfl ?_
      refine pw_ld E (pc' := 41) (st' := [.ref 32, .long (Int64.ofInt (x17 * x8)), .ref 38]) rfl (fun _ => rfl) ?_
      refine pw_ld E (pc' := 42) (st' := [pw_i 1, .ref 32, .long (Int64.ofInt (x17 * x8)), .ref 38]) rfl (fun _ => rfl) ?_
      obtain ⟨f19l, f19h, -⟩ := pw_obj (c := 16) I rfl
      refine pw_call (m' := 85) (As := [.ref 32, pw_i 1]) (rest := [.long (Int64.ofInt (x17 * x8)), .ref 38]) (ls'' := [some (.ref 32), some (pw_i 1), none, none]) (Nat.le_trans (by decide) hd) E rfl (fun _ => pw_iV rfl rfl rfl rfl (pw_cellI f19h rfl)) (rfl : pm_ent 85 = some (2, 4, 8, 0, pmc_85)) rfl rfl (cm_85_s (pw_dp hd (by decide)) I (1) (by omega) (by omega) hB) ?_
      rintro u21 v20 ⟨rfl, x22, rfl, hx22a, hx22b, hx22r⟩
      refine ⟨_, rfl, ?_⟩
      show pw X d h 83 45 [some (.ref 32), some (.ref 38), some (.long (Int64.ofInt x4)), none, some (.long (Int64.ofInt x8)), none] [pw_i x22, .long (Int64.ofInt (x17 * x8)), .ref 38] _
      change x22 = pv_S (pw_g h 17) (pw_g h 18) 1 24 at hx22r
      refine pw_i2l E (pc' := 46) rfl rfl (by omega) (by omega) ?_
      refine pw_ld E (pc' := 47) (st' := [.long (Int64.ofInt x4), .long (Int64.ofInt x22), .long (Int64.ofInt (x17 * x8)), .ref 38]) rfl (fun _ => rfl) ?_
      have hm23 := pw_mulS (a := x22) (b := x4) (A := 48000) (B := 24) (by omega) (by omega) (by omega) (by omega)
      refine pw_lmul E (pc' := 48) rfl rfl ?_
      refine pw_lsub E (pc' := 49) rfl rfl ?_
      refine pw_ld E (pc' := 50) (st' := [.long (Int64.ofInt x4), .long (Int64.ofInt ((x17 * x8) - (x22 * x4))), .ref 38]) rfl (fun _ => rfl) ?_
      refine pw_ld E (pc' := 52) (st' := [.long (Int64.ofInt x8), .long (Int64.ofInt x4), .long (Int64.ofInt ((x17 * x8) - (x22 * x4))), .ref 38]) rfl (fun _ => rfl) ?_
      have hm24 := pw_mulB (a := x4) (b := x8) (A := 24) (B := 24) (by omega) (by omega) (by omega) (by omega)
      refine pw_lmul E (pc' := 53) rfl rfl ?_
      obtain ⟨f25l, f25h, -⟩ := pw_obj (c := 22) I rfl
      refine pw_call (m' := 6) (As := [.ref 38, .long (Int64.ofInt ((x17 * x8) - (x22 * x4))), .long (Int64.ofInt (x4 * x8))]) (rest := []) (ls'' := [some (.ref 38), some (.long (Int64.ofInt ((x17 * x8) - (x22 * x4)))), none, some (.long (Int64.ofInt (x4 * x8))), none, none, none]) (Nat.le_trans (by decide) hd) E rfl (fun _ => pw_iV rfl rfl rfl rfl (pw_cellI f25h rfl)) (rfl : pm_ent 6 = some (3, 7, 1, 4, pmc_6)) rfl rfl (cm_6_22g (pw_dp hd (by decide)) I ((x17 * x8) - (x22 * x4)) (by omega) (by omega) (x4 * x8) (by omega) (by omega)) ?_
      rintro h26 v27 ⟨h26I, h26E, hqfr, rfl⟩
      refine ⟨_, rfl, ?_⟩
      have h26F := E0.tr (h26E.wk (W' := [22]) (by first | rfl | simp))
      show pw X d h26 83 56 [some (.ref 32), some (.ref 38), some (.long (Int64.ofInt x4)), none, some (.long (Int64.ofInt x8)), none] [] _
      refine pw_ld E (pc' := 57) (st' := [pw_i 1]) rfl (fun _ => rfl) ?_
      refine pw_zret E rfl (by omega) ?_
      have eU : pv_U (pw_g h 17) (pw_g h 18) = x17 * x8 - x22 * x4 := by unfold pv_U; rw [← hx4r, ← hx8r, ← hx17r, ← hx22r]
      have eD : pv_D (pw_g h 17) = x4 * x8 := by unfold pv_D; rw [← hx4r, ← hx8r]
      exact ⟨h26I, h26F, ⟨_, rfl, by omega, by omega, Or.inr ⟨rfl, ⟨by omega, by omega⟩, by rw [eU, eD]; exact hqfr.1, by rw [eU, eD]; exact hqfr.2⟩⟩⟩
    · intro hc28
      change ¬ (c12 ≠ (0 : Int)) at hc28
      refine pw_ld E (pc' := 29) (st' := [pw_i 0]) rfl (fun _ => rfl) ?_
      refine pw_zret E rfl (by omega) ?_
      exact ⟨I, E0, ⟨_, rfl, by omega, by omega, Or.inl ⟨rfl, fun q => by have q1 := q.1; have q2 := q.2; omega⟩⟩⟩
set_option maxHeartbeats 4000000 in
theorem cm_23_10s {X : List (Nat × List Value)} {d : Nat} {h : pm_H} (hd : 2 ≤ d) (I : pw_I h) (k : Int) (hk1 : 0 ≤ k) (hk2 : k ≤ 23) (b : Int) (hb1 : 0 ≤ b) (hb2 : b ≤ 11) (e : Int) (he1 : 0 ≤ e) (he2 : e ≤ 11) : pw X d h 23 0 [some (.ref 26), some (pw_i k), some (pw_i b), some (pw_i e)] [] (fun h' v => h = h' ∧ ∃ a : Int, v = .inl (some (pw_i a)) ∧ 0 ≤ a ∧ a ≤ 1 ∧ ((a = 1 ∧ pw_g h 11 (k * 12 + b).toNat ≠ -2 ∧ pw_g h 11 (k * 12 + e).toNat ≠ -2) ∨ (a = 0 ∧ ¬ (pw_g h 11 (k * 12 + b).toNat ≠ -2 ∧ pw_g h 11 (k * 12 + e).toNat ≠ -2)))) := by
  have E : pm_ent 23 = some (4, 4, 2, 1, pmc_23) := rfl
  refine pw_ld E (pc' := 1) (st' := [.ref 26]) rfl (fun _ => rfl) ?_
  refine pw_ld E (pc' := 2) (st' := [pw_i k, .ref 26]) rfl (fun _ => rfl) ?_
  refine pw_ld E (pc' := 3) (st' := [pw_i b, pw_i k, .ref 26]) rfl (fun _ => rfl) ?_
  obtain ⟨f1l, f1h, -⟩ := pw_obj (c := 10) I rfl
  refine pw_call (m' := 19) (As := [.ref 26, pw_i k, pw_i b]) (rest := []) (ls'' := [some (.ref 26), some (pw_i k), some (pw_i b)]) (Nat.le_trans (by decide) hd) E rfl (fun _ => pw_iV rfl rfl rfl rfl (pw_cellI f1h rfl)) (rfl : pm_ent 19 = some (3, 3, 2, 1, pmc_19)) rfl rfl (cm_19_10h (pw_dp hd (by decide)) I (k) (by omega) (by omega) (b) (by omega) (by omega)) ?_
  rintro u3 v2 ⟨rfl, x4, rfl, hx4a, hx4b, hx4r⟩
  refine ⟨_, rfl, ?_⟩
  show pw X d h 23 6 [some (.ref 26), some (pw_i k), some (pw_i b), some (pw_i e)] [pw_i x4] _
  change (x4 = 1 ∧ pw_g h 11 (k * 12 + b).toNat = -2) ∨ (x4 = 0 ∧ pw_g h 11 (k * 12 + b).toNat ≠ -2) at hx4r
  rcases (by omega : x4 = 1 ∨ x4 = 0) with hb5 | hb5
  · skip
    refine pw_if E (pc' := 22) rfl (by decide) (by omega) (by omega) ?_ ?_
    · intro hc6
      change x4 ≠ (0 : Int) at hc6
      refine pw_ld E (pc' := 23) (st' := [pw_i 0]) rfl (fun _ => rfl) ?_
      refine pw_zret E rfl (by omega) ?_
      exact ⟨rfl, ⟨_, rfl, by omega, by omega, by omega⟩⟩
    · intro hc7
      change ¬ (x4 ≠ (0 : Int)) at hc7
      exfalso; omega
  · skip
    refine pw_if E (pc' := 22) rfl (by decide) (by omega) (by omega) ?_ ?_
    · intro hc9
      change x4 ≠ (0 : Int) at hc9
      exfalso; omega
    · intro hc10
      change ¬ (x4 ≠ (0 : Int)) at hc10
      refine pw_ld E (pc' := 10) (st' := [.ref 26]) rfl (fun _ => rfl) ?_
      refine pw_ld E (pc' := 11) (st' := [pw_i k, .ref 26]) rfl (fun _ => rfl) ?_
      refine pw_ld E (pc' := 12) (st' := [pw_i e, pw_i k, .ref 26]) rfl (fun _ => rfl) ?_
      obtain ⟨f11l, f11h, -⟩ := pw_obj (c := 10) I rfl
      refine pw_call (m' := 19) (As := [.ref 26, pw_i k, pw_i e]) (rest := []) (ls'' := [some (.ref 26), some (pw_i k), some (pw_i e)]) (Nat.le_trans (by decide) hd) E rfl (fun _ => pw_iV rfl rfl rfl rfl (pw_cellI f11h rfl)) (rfl : pm_ent 19 = some (3, 3, 2, 1, pmc_19)) rfl rfl (cm_19_10h (pw_dp hd (by decide)) I (k) (by omega) (by omega) (e) (by omega) (by omega)) ?_
      rintro u13 v12 ⟨rfl, x14, rfl, hx14a, hx14b, hx14r⟩
      refine ⟨_, rfl, ?_⟩
      show pw X d h 23 15 [some (.ref 26), some (pw_i k), some (pw_i b), some (pw_i e)] [pw_i x14] _
      change (x14 = 1 ∧ pw_g h 11 (k * 12 + e).toNat = -2) ∨ (x14 = 0 ∧ pw_g h 11 (k * 12 + e).toNat ≠ -2) at hx14r
      rcases (by omega : x14 = 1 ∨ x14 = 0) with hb15 | hb15
      · skip
        refine pw_if E (pc' := 22) rfl (by decide) (by omega) (by omega) ?_ ?_
        · intro hc16
          change x14 ≠ (0 : Int) at hc16
          refine pw_ld E (pc' := 23) (st' := [pw_i 0]) rfl (fun _ => rfl) ?_
          refine pw_zret E rfl (by omega) ?_
          exact ⟨rfl, ⟨_, rfl, by omega, by omega, by omega⟩⟩
        · intro hc17
          change ¬ (x14 ≠ (0 : Int)) at hc17
          exfalso; omega
      · skip
        refine pw_if E (pc' := 22) rfl (by decide) (by omega) (by omega) ?_ ?_
        · intro hc19
          change x14 ≠ (0 : Int) at hc19
          exfalso; omega
        · intro hc20
          change ¬ (x14 ≠ (0 : Int)) at hc20
          refine pw_ld E (pc' := 19) (st' := [pw_i 1]) rfl (fun _ => rfl) ?_
          refine pw_goto E (pc' := 23) rfl (by decide) ?_
          refine pw_zret E rfl (by omega) ?_
          exact ⟨rfl, ⟨_, rfl, by omega, by omega, by omega⟩⟩
set_option maxHeartbeats 4000000 in
theorem cm_24_10s {X : List (Nat × List Value)} {d : Nat} {h : pm_H} (hd : 3 ≤ d) (I : pw_I h) (k : Int) (hk1 : 0 ≤ k) (hk2 : k ≤ 23) (b : Int) (hb1 : 0 ≤ b) (hb2 : b ≤ 11) (e : Int) (he1 : 0 ≤ e) (he2 : e ≤ 11) (t : Int) (ht1 : 0 ≤ t) (ht2 : t ≤ 10) : pw X d h 24 0 [some (.ref 26), some (pw_i k), some (pw_i b), some (pw_i e), some (pw_i t)] [] (fun h' v => h = h' ∧ ∃ a : Int, v = .inl (some (pw_i a)) ∧ (-2000) ≤ a ∧ a ≤ 2000 ∧ (a = pw_hc (pw_g h 11 (k * 12 + e).toNat) t - pw_hc (pw_g h 11 (k * 12 + b).toNat) t)) := by
  have E : pm_ent 24 = some (5, 5, 2, 0, pmc_24) := rfl
  refine pw_ld E (pc' := 1) (st' := [.ref 26]) rfl (fun _ => rfl) ?_
  refine pw_ld E (pc' := 2) (st' := [pw_i k, .ref 26]) rfl (fun _ => rfl) ?_
  refine pw_ld E (pc' := 3) (st' := [pw_i e, pw_i k, .ref 26]) rfl (fun _ => rfl) ?_
  refine pw_ld E (pc' := 5) (st' := [pw_i t, pw_i e, pw_i k, .ref 26]) rfl (fun _ => rfl) ?_
  obtain ⟨f1l, f1h, -⟩ := pw_obj (c := 10) I rfl
  refine pw_call (m' := 20) (As := [.ref 26, pw_i k, pw_i e, pw_i t]) (rest := []) (ls'' := [some (.ref 26), some (pw_i k), some (pw_i e), some (pw_i t)]) (Nat.le_trans (by decide) hd) E rfl (fun _ => pw_iV rfl rfl rfl rfl (pw_cellI f1h rfl)) (rfl : pm_ent 20 = some (4, 4, 2, 0, pmc_20)) rfl rfl (cm_20_10h (pw_dp hd (by decide)) I (k) (by omega) (by omega) (e) (by omega) (by omega) (t) (by omega) (by omega)) ?_
  rintro u3 v2 ⟨rfl, x4, rfl, hx4a, hx4b, hx4r⟩
  refine ⟨_, rfl, ?_⟩
  show pw X d h 24 8 [some (.ref 26), some (pw_i k), some (pw_i b), some (pw_i e), some (pw_i t)] [pw_i x4] _
  change x4 = (max 0 (pw_g h 11 (k * 12 + e).toNat) / 100) * 10 + (max 0 (pw_g h 11 (k * 12 + e).toNat) % 100) * t at hx4r
  refine pw_ld E (pc' := 9) (st' := [.ref 26, pw_i x4]) rfl (fun _ => rfl) ?_
  refine pw_ld E (pc' := 10) (st' := [pw_i k, .ref 26, pw_i x4]) rfl (fun _ => rfl) ?_
  refine pw_ld E (pc' := 11) (st' := [pw_i b, pw_i k, .ref 26, pw_i x4]) rfl (fun _ => rfl) ?_
  refine pw_ld E (pc' := 13) (st' := [pw_i t, pw_i b, pw_i k, .ref 26, pw_i x4]) rfl (fun _ => rfl) ?_
  obtain ⟨f5l, f5h, -⟩ := pw_obj (c := 10) I rfl
  refine pw_call (m' := 20) (As := [.ref 26, pw_i k, pw_i b, pw_i t]) (rest := [pw_i x4]) (ls'' := [some (.ref 26), some (pw_i k), some (pw_i b), some (pw_i t)]) (Nat.le_trans (by decide) hd) E rfl (fun _ => pw_iV rfl rfl rfl rfl (pw_cellI f5h rfl)) (rfl : pm_ent 20 = some (4, 4, 2, 0, pmc_20)) rfl rfl (cm_20_10h (pw_dp hd (by decide)) I (k) (by omega) (by omega) (b) (by omega) (by omega) (t) (by omega) (by omega)) ?_
  rintro u7 v6 ⟨rfl, x8, rfl, hx8a, hx8b, hx8r⟩
  refine ⟨_, rfl, ?_⟩
  show pw X d h 24 16 [some (.ref 26), some (pw_i k), some (pw_i b), some (pw_i e), some (pw_i t)] [pw_i x8, pw_i x4] _
  change x8 = (max 0 (pw_g h 11 (k * 12 + b).toNat) / 100) * 10 + (max 0 (pw_g h 11 (k * 12 + b).toNat) % 100) * t at hx8r
  refine pw_sub E (pc' := 17) rfl rfl ?_
  refine pw_iret E rfl ?_
  exact ⟨rfl, ⟨_, rfl, by omega, by omega, by rw [hx4r, hx8r]; rfl⟩⟩
set_option maxHeartbeats 4000000 in
theorem cm_138_s {X : List (Nat × List Value)} {d : Nat} {h : pm_H} (hd : 4 ≤ d) (I : pw_I h) (b : Int) (hb1 : 0 ≤ b) (hb2 : b ≤ 11) (e : Int) (he1 : 0 ≤ e) (he2 : e ≤ 11) : pw X d h 138 0 [some (.ref 16), some (pw_i b), some (pw_i e), none] [] (fun h' v => pw_I h' ∧ pw_E [17, 18] h h' ∧ (pv_FL h' (pv_sdc h b e) (pv_chc h b e) 24) ∧ (v = .inl none)) := by
  have E : pm_ent 138 = some (3, 4, 11, 4, pmc_138) := rfl
  have E0 : pw_E [17, 18] h h := pw_E.rf _ _
  refine pw_ld E (pc' := 1) (st' := [.ref 16]) rfl (fun _ => rfl) ?_
  refine pw_getR (b := 32) I E (c := 0) (k := 7) (pc' := 4) rfl rfl rfl rfl rfl rfl rfl ?_
  obtain ⟨f1l, f1h, -⟩ := pw_obj (c := 16) I rfl
  refine pw_call (m' := 81) (As := [.ref 32]) (rest := []) (ls'' := [some (.ref 32)]) (Nat.le_trans (by decide) hd) E rfl (fun _ => pw_iV rfl rfl rfl rfl (pw_cellI f1h rfl)) (rfl : pm_ent 81 = some (1, 1, 8, 4, pmc_81)) rfl rfl (cm_81_s (pw_dp hd (by decide)) I ) ?_
  rintro h2 v3 ⟨h2I, h2E, hqclear, rfl⟩
  refine ⟨_, rfl, ?_⟩
  have h2F := E0.tr (h2E.wk (W' := [17, 18]) (by first | rfl | simp))
  show pw X d h2 138 7 [some (.ref 16), some (pw_i b), some (pw_i e), none] [] _
  refine pw_ld E (pc' := 8) (st' := [pw_i 0]) rfl (fun _ => rfl) ?_
  refine pw_istn E (pc' := 9) (ls' := [some (.ref 16), some (pw_i b), some (pw_i e), some (pw_i 0)]) rfl rfl rfl rfl ?_
  have L9 : ∀ (n9 : Nat) (k9_3 : Int) (gh9 : pm_H), pw_I gh9 → pw_E [17, 18] h gh9 → 0 ≤ k9_3 → k9_3 ≤ 24 → pv_FL gh9 (pv_sdc h b e) (pv_chc h b e) k9_3 → (24 - k9_3).toNat = n9 → pw X d gh9 138 9 [some (.ref 16), some (pw_i b), some (pw_i e), some (pw_i k9_3)] [] (fun h' v => pw_I h' ∧ pw_E [17, 18] h h' ∧ (pv_FL h' (pv_sdc h b e) (pv_chc h b e) 24) ∧ (v = .inl none)) := by
    intro n9
    induction n9 using Nat.strongRecOn with
    | ind n9 ih9 =>
      intro k9_3 gh9 I9 E9 k9_3a k9_3b hx9_0 hm9
      refine pw_ld E (pc' := 10) (st' := [pw_i k9_3]) rfl (fun _ => rfl) ?_
      refine pw_bip E (pc' := 12) rfl rfl (by decide) ?_
      refine pw_if2 E (pc' := 75) rfl (by decide) (by omega) (by omega) (by decide) (by decide) ?_ ?_
      · intro hc4
        change (24 : Int) ≤ k9_3 at hc4
        refine pw_vret E rfl ?_
        exact ⟨I9, E9, ⟨(by rw [show (24 : Int) = k9_3 by omega]; exact hx9_0), rfl⟩⟩
      · intro hc5
        change ¬ ((24 : Int) ≤ k9_3) at hc5
        have o1 := pv_sdcI (h := h) (b := b) (e := e) (k := k9_3) (by omega)
        have q2 : pw_g gh9 2 (k9_3).toNat = pw_g h 2 (k9_3).toNat := pw_Eg (c := 2) I E9 rfl rfl _
        have qb : pw_g gh9 11 (k9_3 * 12 + b).toNat = pw_g h 11 (k9_3 * 12 + b).toNat := pw_Eg (c := 11) I E9 rfl rfl _
        have qe : pw_g gh9 11 (k9_3 * 12 + e).toNat = pw_g h 11 (k9_3 * 12 + e).toNat := pw_Eg (c := 11) I E9 rfl rfl _
        have q4 : pw_g gh9 4 (k9_3).toNat = pw_g h 4 (k9_3).toNat := pw_Eg (c := 4) I E9 rfl rfl _
        have q6 : pw_g gh9 0 6 = pw_g h 0 6 := pw_Eg (c := 0) I E9 rfl rfl _
        refine pw_ld E (pc' := 16) (st' := [.ref 16]) rfl (fun _ => rfl) ?_
        refine pw_getR (b := 17) I9 E (c := 0) (k := 0) (pc' := 19) rfl rfl rfl rfl rfl rfl rfl ?_
        refine pw_ld E (pc' := 20) (st' := [pw_i k9_3, .ref 17]) rfl (fun _ => rfl) ?_
        obtain ⟨f6l, f6h, -⟩ := pw_obj (c := 1) I9 rfl
        refine pw_call (m' := 59) (As := [.ref 17, pw_i k9_3]) (rest := []) (ls'' := [some (.ref 17), some (pw_i k9_3)]) (Nat.le_trans (by decide) hd) E rfl (fun _ => pw_iV rfl rfl rfl rfl (pw_cellI f6h rfl)) (rfl : pm_ent 59 = some (2, 2, 6, 1, pmc_59)) rfl rfl (cm_59 (pw_dp hd (by decide)) I9 (k9_3) (by omega) (by omega)) ?_
        rintro u8 v7 ⟨rfl, x9, rfl, hx9a, hx9b, hx9r⟩
        refine ⟨_, rfl, ?_⟩
        show pw X d gh9 138 23 [some (.ref 16), some (pw_i b), some (pw_i e), some (pw_i k9_3)] [pw_i x9] _
        change x9 = pw_g gh9 2 k9_3.toNat at hx9r
        rcases (by omega : x9 = 1 ∨ x9 = 0) with hb10 | hb10
        · skip
          refine pw_if E (pc' := 69) rfl (by decide) (by omega) (by omega) ?_ ?_
          · intro hc11
            change x9 = (0 : Int) at hc11
            exfalso; omega
          · intro hc12
            change ¬ (x9 = (0 : Int)) at hc12
            refine pw_ld E (pc' := 27) (st' := [.ref 16]) rfl (fun _ => rfl) ?_
            refine pw_getR (b := 26) I9 E (c := 0) (k := 2) (pc' := 30) rfl rfl rfl rfl rfl rfl rfl ?_
            refine pw_ld E (pc' := 31) (st' := [pw_i k9_3, .ref 26]) rfl (fun _ => rfl) ?_
            refine pw_ld E (pc' := 32) (st' := [pw_i b, pw_i k9_3, .ref 26]) rfl (fun _ => rfl) ?_
            refine pw_ld E (pc' := 33) (st' := [pw_i e, pw_i b, pw_i k9_3, .ref 26]) rfl (fun _ => rfl) ?_
            obtain ⟨f13l, f13h, -⟩ := pw_obj (c := 10) I9 rfl
            refine pw_call (m' := 23) (As := [.ref 26, pw_i k9_3, pw_i b, pw_i e]) (rest := []) (ls'' := [some (.ref 26), some (pw_i k9_3), some (pw_i b), some (pw_i e)]) (Nat.le_trans (by decide) hd) E rfl (fun _ => pw_iV rfl rfl rfl rfl (pw_cellI f13h rfl)) (rfl : pm_ent 23 = some (4, 4, 2, 1, pmc_23)) rfl rfl (cm_23_10s (pw_dp hd (by decide)) I9 (k9_3) (by omega) (by omega) (b) (by omega) (by omega) (e) (by omega) (by omega)) ?_
            rintro u15 v14 ⟨rfl, x16, rfl, hx16a, hx16b, hx16r⟩
            refine ⟨_, rfl, ?_⟩
            show pw X d gh9 138 36 [some (.ref 16), some (pw_i b), some (pw_i e), some (pw_i k9_3)] [pw_i x16] _
            change (x16 = 1 ∧ pw_g gh9 11 (k9_3 * 12 + b).toNat ≠ -2 ∧ pw_g gh9 11 (k9_3 * 12 + e).toNat ≠ -2) ∨ (x16 = 0 ∧ ¬ (pw_g gh9 11 (k9_3 * 12 + b).toNat ≠ -2 ∧ pw_g gh9 11 (k9_3 * 12 + e).toNat ≠ -2)) at hx16r
            rcases (by omega : x16 = 1 ∨ x16 = 0) with hb17 | hb17
            · skip
              refine pw_if E (pc' := 69) rfl (by decide) (by omega) (by omega) ?_ ?_
              · intro hc18
                change x16 = (0 : Int) at hc18
                exfalso; omega
              · intro hc19
                change ¬ (x16 = (0 : Int)) at hc19
                refine pw_ld E (pc' := 40) (st' := [.ref 16]) rfl (fun _ => rfl) ?_
                refine pw_getR (b := 32) I9 E (c := 0) (k := 7) (pc' := 43) rfl rfl rfl rfl rfl rfl rfl ?_
                refine pw_ld E (pc' := 44) (st' := [pw_i k9_3, .ref 32]) rfl (fun _ => rfl) ?_
                refine pw_ld E (pc' := 45) (st' := [.ref 16, pw_i k9_3, .ref 32]) rfl (fun _ => rfl) ?_
                refine pw_getR (b := 17) I9 E (c := 0) (k := 0) (pc' := 48) rfl rfl rfl rfl rfl rfl rfl ?_
                refine pw_ld E (pc' := 49) (st' := [pw_i k9_3, .ref 17, pw_i k9_3, .ref 32]) rfl (fun _ => rfl) ?_
                obtain ⟨f20l, f20h, -⟩ := pw_obj (c := 1) I9 rfl
                refine pw_call (m' := 60) (As := [.ref 17, pw_i k9_3]) (rest := [pw_i k9_3, .ref 32]) (ls'' := [some (.ref 17), some (pw_i k9_3)]) (Nat.le_trans (by decide) hd) E rfl (fun _ => pw_iV rfl rfl rfl rfl (pw_cellI f20h rfl)) (rfl : pm_ent 60 = some (2, 2, 6, 0, pmc_60)) rfl rfl (cm_60 (pw_dp hd (by decide)) I9 (k9_3) (by omega) (by omega)) ?_
                rintro u22 v21 ⟨rfl, x23, rfl, hx23a, hx23b, hx23r⟩
                refine ⟨_, rfl, ?_⟩
                show pw X d gh9 138 52 [some (.ref 16), some (pw_i b), some (pw_i e), some (pw_i k9_3)] [pw_i x23, pw_i k9_3, .ref 32] _
                change x23 = pw_g gh9 4 k9_3.toNat at hx23r
                refine pw_ld E (pc' := 53) (st' := [.ref 16, pw_i x23, pw_i k9_3, .ref 32]) rfl (fun _ => rfl) ?_
                refine pw_getR (b := 26) I9 E (c := 0) (k := 2) (pc' := 56) rfl rfl rfl rfl rfl rfl rfl ?_
                refine pw_ld E (pc' := 57) (st' := [pw_i k9_3, .ref 26, pw_i x23, pw_i k9_3, .ref 32]) rfl (fun _ => rfl) ?_
                refine pw_ld E (pc' := 58) (st' := [pw_i b, pw_i k9_3, .ref 26, pw_i x23, pw_i k9_3, .ref 32]) rfl (fun _ => rfl) ?_
                refine pw_ld E (pc' := 59) (st' := [pw_i e, pw_i b, pw_i k9_3, .ref 26, pw_i x23, pw_i k9_3, .ref 32]) rfl (fun _ => rfl) ?_
                refine pw_ld E (pc' := 60) (st' := [.ref 16, pw_i e, pw_i b, pw_i k9_3, .ref 26, pw_i x23, pw_i k9_3, .ref 32]) rfl (fun _ => rfl) ?_
                refine pw_getI2 I9 E (c := 0) (k := 6) (pc' := 63) rfl rfl rfl rfl rfl rfl (fun hf24a hf24b => ?_)
                obtain ⟨f25l, f25h, -⟩ := pw_obj (c := 10) I9 rfl
                refine pw_call (m' := 24) (As := [.ref 26, pw_i k9_3, pw_i b, pw_i e, pw_i (pw_g gh9 0 6)]) (rest := [pw_i x23, pw_i k9_3, .ref 32]) (ls'' := [some (.ref 26), some (pw_i k9_3), some (pw_i b), some (pw_i e), some (pw_i (pw_g gh9 0 6))]) (Nat.le_trans (by decide) hd) E rfl (fun _ => pw_iV rfl rfl rfl rfl (pw_cellI f25h rfl)) (rfl : pm_ent 24 = some (5, 5, 2, 0, pmc_24)) rfl rfl (cm_24_10s (pw_dp hd (by decide)) I9 (k9_3) (by omega) (by omega) (b) (by omega) (by omega) (e) (by omega) (by omega) (pw_g gh9 0 6) (by omega) (by omega)) ?_
                rintro u27 v26 ⟨rfl, x28, rfl, hx28a, hx28b, hx28r⟩
                refine ⟨_, rfl, ?_⟩
                show pw X d gh9 138 66 [some (.ref 16), some (pw_i b), some (pw_i e), some (pw_i k9_3)] [pw_i x28, pw_i x23, pw_i k9_3, .ref 32] _
                change x28 = pw_hc (pw_g gh9 11 (k9_3 * 12 + e).toNat) (pw_g gh9 0 6) - pw_hc (pw_g gh9 11 (k9_3 * 12 + b).toNat) (pw_g gh9 0 6) at hx28r
                have hch : pv_chc h b e (k9_3).toNat = x28 := by rw [hx28r, qb, qe, q6]; exact pv_chcI (by omega)
                obtain ⟨f29l, f29h, -⟩ := pw_obj (c := 16) I9 rfl
                refine pw_call (m' := 82) (As := [.ref 32, pw_i k9_3, pw_i x23, pw_i x28]) (rest := []) (ls'' := [some (.ref 32), some (pw_i k9_3), some (pw_i x23), some (pw_i x28)]) (Nat.le_trans (by decide) hd) E rfl (fun _ => pw_iV rfl rfl rfl rfl (pw_cellI f29h rfl)) (rfl : pm_ent 82 = some (4, 4, 8, 4, pmc_82)) rfl rfl (cm_82_s (pw_dp hd (by decide)) I9 (k9_3) (by omega) (by omega) (x23) (by omega) (by omega) (x28) (by omega) (by omega)) ?_
                rintro h30 v31 ⟨h30I, h30E, hqput, rfl⟩
                refine ⟨_, rfl, ?_⟩
                have h30F := E9.tr (h30E.wk (W' := [17, 18]) (by first | rfl | simp))
                show pw X d h30 138 69 [some (.ref 16), some (pw_i b), some (pw_i e), some (pw_i k9_3)] [] _
                refine pw_inc E (pc' := 72) (ls' := [some (.ref 16), some (pw_i b), some (pw_i e), some (pw_i (k9_3 + 1))]) rfl rfl rfl rfl ?_
                refine pw_goto E (pc' := 9) rfl (by decide) ?_
                exact ih9 _ (by omega) (k9_3 + 1) h30 h30I h30F (by omega) (by omega) (by first | exact pv_FL.yes hx9_0 (by omega) hqput.1 hqput.2 (by omega) hch | exact pv_FL.no hx9_0 (by omega) (by omega)) rfl
            · skip
              refine pw_if E (pc' := 69) rfl (by decide) (by omega) (by omega) ?_ ?_
              · intro hc33
                change x16 = (0 : Int) at hc33
                refine pw_inc E (pc' := 72) (ls' := [some (.ref 16), some (pw_i b), some (pw_i e), some (pw_i (k9_3 + 1))]) rfl rfl rfl rfl ?_
                refine pw_goto E (pc' := 9) rfl (by decide) ?_
                exact ih9 _ (by omega) (k9_3 + 1) gh9 I9 E9 (by omega) (by omega) (by first | exact pv_FL.yes hx9_0 (by omega) hqput.1 hqput.2 (by omega) hch | exact pv_FL.no hx9_0 (by omega) (by omega)) rfl
              · intro hc34
                change ¬ (x16 = (0 : Int)) at hc34
                exfalso; omega
        · skip
          refine pw_if E (pc' := 69) rfl (by decide) (by omega) (by omega) ?_ ?_
          · intro hc36
            change x9 = (0 : Int) at hc36
            refine pw_inc E (pc' := 72) (ls' := [some (.ref 16), some (pw_i b), some (pw_i e), some (pw_i (k9_3 + 1))]) rfl rfl rfl rfl ?_
            refine pw_goto E (pc' := 9) rfl (by decide) ?_
            exact ih9 _ (by omega) (k9_3 + 1) gh9 I9 E9 (by omega) (by omega) (by first | exact pv_FL.yes hx9_0 (by omega) hqput.1 hqput.2 (by omega) hch | exact pv_FL.no hx9_0 (by omega) (by omega)) rfl
          · intro hc37
            change ¬ (x9 = (0 : Int)) at hc37
            exfalso; omega
  exact L9 _ (0) h2 h2I h2F (by omega) (by omega) (pv_FL.z hqclear) rfl
end
