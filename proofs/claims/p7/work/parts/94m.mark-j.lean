section
/-! other and mark, exactly (printed by wip/tool/mmark.py) -/
/-- what mark does to the number of other rivers and to what the marks hold -/
def pw_MT (c c' : Int) (o l o' l' : Nat → Int) (mk b a : Int) : Prop :=
  (¬ (0 ≤ mk ∧ mk ≤ 3) ∧ a = 0 ∧ c' = c ∧ ∀ i : Nat, i < 4 → o' i = o i ∧ l' i = l i) ∨
  (0 ≤ mk ∧ mk ≤ 3 ∧ b = 0 ∧ a = 1 ∧ c' = c ∧ o' mk.toNat = c ∧ l' mk.toNat = 1 ∧ ∀ i : Nat, i < 4 → i ≠ mk.toNat → o' i = o i ∧ l' i = l i) ∨
  (0 ≤ mk ∧ mk ≤ 3 ∧ b = 1 ∧ (l mk.toNat = 0 ∨ c < o mk.toNat) ∧ a = 0 ∧ c' = c ∧ ∀ i : Nat, i < 4 → o' i = o i ∧ l' i = l i) ∨
  (0 ≤ mk ∧ mk ≤ 3 ∧ b = 1 ∧ l mk.toNat ≠ 0 ∧ o mk.toNat ≤ c ∧ a = 1 ∧ c' = o mk.toNat ∧ ∀ i : Nat, i < 4 → o' i = o i ∧ l' i = l i)
def pw_om (h : pm_H) (i : Nat) : Int := pw_g h (105 + 5 * i) 2
def pw_lm (h : pm_H) (i : Nat) : Int := pw_g h (105 + 5 * i) 3
theorem pw_i4 {P : Nat → Prop} (h0 : P 0) (h1 : P 1) (h2 : P 2) (h3 : P 3) : ∀ i : Nat, i < 4 → P i := by
  intro i hi
  rcases (by omega : i = 0 ∨ i = 1 ∨ i = 2 ∨ i = 3) with rfl | rfl | rfl | rfl
  · exact h0
  · exact h1
  · exact h2
  · exact h3
/-- the same before, the same after -/
theorem pw_MT.un {c c' d d' : Int} {o l o' l' p q p' q' : Nat → Int} {mk b a a' : Int} (h1 : pw_MT c c' o l o' l' mk b a) (h2 : pw_MT d d' p q p' q' mk b a') (hc : c = d) (ho : ∀ i : Nat, i < 4 → o i = p i ∧ l i = q i) : a = a' ∧ c' = d' ∧ ∀ i : Nat, i < 4 → o' i = p' i ∧ l' i = q' i := by
  have hm : 0 ≤ mk → mk ≤ 3 → o mk.toNat = p mk.toNat ∧ l mk.toNat = q mk.toNat := fun z1 z2 => ho _ (by omega)
  have same : (∀ i : Nat, i < 4 → o' i = o i ∧ l' i = l i) → (∀ i : Nat, i < 4 → p' i = p i ∧ q' i = q i) → ∀ i : Nat, i < 4 → o' i = p' i ∧ l' i = q' i := fun u v i hi => ⟨((u i hi).1.trans (ho i hi).1).trans (v i hi).1.symm, ((u i hi).2.trans (ho i hi).2).trans (v i hi).2.symm⟩
  rcases h1 with ⟨x1, x2, x3, x4⟩ | ⟨x1, x2, x3, x4, x5, x6, x7, x8⟩ | ⟨x1, x2, x3, x4, x5, x6, x7⟩ | ⟨x1, x2, x3, x4, x5, x6, x7, x8⟩ <;> rcases h2 with ⟨y1, y2, y3, y4⟩ | ⟨y1, y2, y3, y4, y5, y6, y7, y8⟩ | ⟨y1, y2, y3, y4, y5, y6, y7⟩ | ⟨y1, y2, y3, y4, y5, y6, y7, y8⟩
  · exact ⟨by omega, by omega, same x4 y4⟩
  · exfalso; omega
  · exfalso; omega
  · exfalso; omega
  · exfalso; omega
  · refine ⟨by omega, by omega, fun i hi => ?_⟩
    rcases (by omega : i = mk.toNat ∨ i ≠ mk.toNat) with e | e
    · rw [e]; constructor <;> omega
    · exact ⟨((x8 i hi e).1.trans (ho i hi).1).trans (y8 i hi e).1.symm, ((x8 i hi e).2.trans (ho i hi).2).trans (y8 i hi e).2.symm⟩
  · exfalso; omega
  · exfalso; omega
  · exfalso; omega
  · exfalso; omega
  · exact ⟨by omega, by omega, same x7 y7⟩
  · have := hm x1 x2; exfalso; omega
  · exfalso; omega
  · exfalso; omega
  · have := hm x1 x2; exfalso; omega
  · have := hm x1 x2; exact ⟨by omega, by omega, same x8 y8⟩

set_option maxHeartbeats 4000000 in
theorem cm_40_m {X : List (Nat × List Value)} {d : Nat} {h : pm_H} (hd : 1 ≤ d) (I : pw_I h)  : pw X d h 40 0 [some (.ref 116)] [] (fun h' v => h = h' ∧ ∃ a : Int, v = .inl (some (pw_i a)) ∧ 0 ≤ a ∧ a ≤ 20 ∧ (a = pw_g h 100 3)) := by
  have E : pm_ent 40 = some (1, 1, 4, 0, pmc_40) := rfl
  refine pw_ld E (pc' := 1) (st' := [.ref 116]) rfl (fun _ => rfl) ?_
  refine pw_getI2 I E (c := 100) (k := 3) (pc' := 4) rfl rfl rfl rfl rfl rfl (fun hf1a hf1b => ?_)
  refine pw_iret E rfl ?_
  exact ⟨rfl, ⟨_, rfl, by omega, by omega, by omega⟩⟩
set_option maxHeartbeats 4000000 in
theorem cm_41_m {X : List (Nat × List Value)} {d : Nat} {h : pm_H} (hd : 1 ≤ d) (I : pw_I h) (n : Int) (hn1 : 0 ≤ n) (hn2 : n ≤ 20) : pw X d h 41 0 [some (.ref 116), some (pw_i n)] [] (fun h' v => pw_I h' ∧ pw_E [100] h h' ∧ (pw_g h' 100 3 = min (pw_g h 100 3) n) ∧ (v = .inl none)) := by
  have E : pm_ent 41 = some (2, 2, 4, 4, pmc_41) := rfl
  have E0 : pw_E [100] h h := pw_E.rf _ _
  refine pw_ld E (pc' := 1) (st' := [.ref 116]) rfl (fun _ => rfl) ?_
  refine pw_ld E (pc' := 2) (st' := [.ref 116, .ref 116]) rfl (fun _ => rfl) ?_
  refine pw_getI2 I E (c := 100) (k := 3) (pc' := 5) rfl rfl rfl rfl rfl rfl (fun hf1a hf1b => ?_)
  refine pw_ld E (pc' := 6) (st' := [pw_i n, pw_i (pw_g h 100 3), .ref 116]) rfl (fun _ => rfl) ?_
  refine pw_min E rfl rfl (by omega) (by omega) (by omega) (by omega) rfl ?_
  refine pw_putI I E (c := 100) (k := 3) (pc' := 12) rfl rfl rfl rfl (by omega) (by omega) (by omega) (by omega) rfl rfl ?_
  intro h2I h2E
  generalize h2w : pw_w h 100 3 (pw_i (min (pw_g h 100 3) n)) = h2 at h2I h2E ⊢
  have h2F := E0.tr (h2E.wk (W' := [100]) (by first | rfl | simp))
  have he3 : pw_g h2 100 3 = min (pw_g h 100 3) n := by rw [← h2w]; exact pw_g_eq (c := 100) (k := 3) I rfl rfl (by omega) (by omega)
  refine pw_vret E rfl ?_
  exact ⟨h2I, h2F, ⟨by omega, rfl⟩⟩
set_option maxHeartbeats 4000000 in
theorem cm_37_m {X : List (Nat × List Value)} {d : Nat} {h : pm_H} (hd : 2 ≤ d) (I : pw_I h) (su : Int) (hsu1 : (-9999) ≤ su) (hsu2 : su ≤ 9999) (n : Int) (hn1 : 1 ≤ n) (hn2 : n ≤ 999) (z : Int) (hz1 : 0 ≤ z) (hz2 : z ≤ 1) : pw X d h 37 0 [some (.ref 116), some (pw_i su), some (pw_i n), some (pw_i z)] [] (fun h' v => pw_I h' ∧ pw_E [100, 101, 102, 103] h h' ∧ ∃ a : Int, v = .inl (some (pw_i a)) ∧ (-1) ≤ a ∧ a ≤ 19 ∧ ((pw_g h 100 3 < 20 ∧ a = pw_g h 100 3 ∧ pw_g h' 100 3 = pw_g h 100 3 + 1) ∨ (20 ≤ pw_g h 100 3 ∧ a = -1 ∧ pw_g h' 100 3 = pw_g h 100 3))) := by
  have E : pm_ent 37 = some (4, 4, 4, 0, pmc_37) := rfl
  have E0 : pw_E [100, 101, 102, 103] h h := pw_E.rf _ _
  refine pw_ld E (pc' := 1) (st' := [.ref 116]) rfl (fun _ => rfl) ?_
  obtain ⟨f1l, f1h, -⟩ := pw_obj (c := 100) I rfl
  refine pw_call (m' := 36) (As := [.ref 116]) (rest := []) (ls'' := [some (.ref 116)]) (Nat.le_trans (by decide) hd) E rfl (fun _ => pw_iV rfl rfl rfl rfl (pw_cellI f1h rfl)) (rfl : pm_ent 36 = some (1, 1, 4, 1, pmc_36)) rfl rfl (cm_36 (pw_dp hd (by decide)) I ) ?_
  rintro u3 v2 ⟨rfl, x4, rfl, hx4a, hx4b, hx4r⟩
  refine ⟨_, rfl, ?_⟩
  show pw X d h 37 4 [some (.ref 116), some (pw_i su), some (pw_i n), some (pw_i z)] [pw_i x4] _
  change (x4 = 1 ∧ 20 ≤ pw_g h 100 3) ∨ (x4 = 0 ∧ pw_g h 100 3 < 20) at hx4r
  rcases (by omega : x4 = 1 ∨ x4 = 0) with hb5 | hb5
  · skip
    refine pw_if E (pc' := 9) rfl (by decide) (by omega) (by omega) ?_ ?_
    · intro hc6
      change x4 = (0 : Int) at hc6
      exfalso; omega
    · intro hc7
      change ¬ (x4 = (0 : Int)) at hc7
      refine pw_ld E (pc' := 8) (st' := [pw_i ((-1))]) rfl (fun _ => rfl) ?_
      refine pw_iret E rfl ?_
      exact ⟨I, E0, ⟨_, rfl, by omega, by omega, by omega⟩⟩
  · skip
    refine pw_if E (pc' := 9) rfl (by decide) (by omega) (by omega) ?_ ?_
    · intro hc9
      change x4 = (0 : Int) at hc9
      refine pw_ld E (pc' := 10) (st' := [.ref 116]) rfl (fun _ => rfl) ?_
      refine pw_getR (b := 117) I E (c := 100) (k := 0) (pc' := 13) rfl rfl rfl rfl rfl rfl rfl ?_
      refine pw_ld E (pc' := 14) (st' := [.ref 116, .ref 117]) rfl (fun _ => rfl) ?_
      refine pw_getI2 I E (c := 100) (k := 3) (pc' := 17) rfl rfl rfl rfl rfl rfl (fun hf10a hf10b => ?_)
      refine pw_ld E (pc' := 18) (st' := [pw_i su, pw_i (pw_g h 100 3), .ref 117]) rfl (fun _ => rfl) ?_
      refine pw_ast0 I E (c := 101) (pc' := 19) rfl rfl rfl (by decide) rfl (by decide) (by omega) (by omega) rfl (by omega) (by omega) (by omega) (by omega) rfl ?_
      intro h11I h11E
      generalize h11w : pw_w h 101 ((pw_g h 100 3).toNat) (pw_i su) = h11 at h11I h11E ⊢
      have h11F := E0.tr (h11E.wk (W' := [100, 101, 102, 103]) (by first | rfl | simp))
      refine pw_ld E (pc' := 20) (st' := [.ref 116]) rfl (fun _ => rfl) ?_
      refine pw_getR (b := 118) h11I E (c := 100) (k := 1) (pc' := 23) rfl rfl rfl rfl rfl rfl rfl ?_
      refine pw_ld E (pc' := 24) (st' := [.ref 116, .ref 118]) rfl (fun _ => rfl) ?_
      have he13 : pw_g h11 100 3 = pw_g h 100 3 := by rw [← h11w]; exact pw_g_ne (by omega)
      refine pw_getI2 h11I E (c := 100) (k := 3) (pc' := 27) rfl rfl rfl rfl rfl rfl (fun hf12a hf12b => ?_)
      refine pw_ld E (pc' := 28) (st' := [pw_i n, pw_i (pw_g h11 100 3), .ref 118]) rfl (fun _ => rfl) ?_
      refine pw_ast0 h11I E (c := 102) (pc' := 29) rfl rfl rfl (by decide) rfl (by decide) (by omega) (by omega) rfl (by omega) (by omega) (by omega) (by omega) rfl ?_
      intro h14I h14E
      generalize h14w : pw_w h11 102 ((pw_g h11 100 3).toNat) (pw_i n) = h14 at h14I h14E ⊢
      have h14F := h11F.tr (h14E.wk (W' := [100, 101, 102, 103]) (by first | rfl | simp))
      refine pw_ld E (pc' := 30) (st' := [.ref 116]) rfl (fun _ => rfl) ?_
      refine pw_getR (b := 119) h14I E (c := 100) (k := 2) (pc' := 33) rfl rfl rfl rfl rfl rfl rfl ?_
      refine pw_ld E (pc' := 34) (st' := [.ref 116, .ref 119]) rfl (fun _ => rfl) ?_
      have he16 : pw_g h14 100 3 = pw_g h11 100 3 := by rw [← h14w]; exact pw_g_ne (by omega)
      refine pw_getI2 h14I E (c := 100) (k := 3) (pc' := 37) rfl rfl rfl rfl rfl rfl (fun hf15a hf15b => ?_)
      refine pw_ld E (pc' := 38) (st' := [pw_i z, pw_i (pw_g h14 100 3), .ref 119]) rfl (fun _ => rfl) ?_
      refine pw_ast0 h14I E (c := 103) (pc' := 39) rfl rfl rfl (by decide) rfl (by decide) (by omega) (by omega) (pw_b1 (by omega) (by omega)) (by omega) (by omega) (by omega) (by omega) rfl ?_
      intro h17I h17E
      generalize h17w : pw_w h14 103 ((pw_g h14 100 3).toNat) (pw_i z) = h17 at h17I h17E ⊢
      have h17F := h14F.tr (h17E.wk (W' := [100, 101, 102, 103]) (by first | rfl | simp))
      refine pw_ld E (pc' := 40) (st' := [.ref 116]) rfl (fun _ => rfl) ?_
      refine pw_ld E (pc' := 41) (st' := [.ref 116, .ref 116]) rfl (fun _ => rfl) ?_
      have he19 : pw_g h17 100 3 = pw_g h14 100 3 := by rw [← h17w]; exact pw_g_ne (by omega)
      refine pw_getI2 h17I E (c := 100) (k := 3) (pc' := 44) rfl rfl rfl rfl rfl rfl (fun hf18a hf18b => ?_)
      refine pw_ld E (pc' := 45) (st' := [pw_i 1, pw_i (pw_g h17 100 3), .ref 116]) rfl (fun _ => rfl) ?_
      refine pw_add E (pc' := 46) rfl rfl ?_
      refine pw_putI h17I E (c := 100) (k := 3) (pc' := 49) rfl rfl rfl rfl (by omega) (by omega) (by omega) (by omega) rfl rfl ?_
      intro h20I h20E
      generalize h20w : pw_w h17 100 3 (pw_i ((pw_g h17 100 3) + 1)) = h20 at h20I h20E ⊢
      have h20F := h17F.tr (h20E.wk (W' := [100, 101, 102, 103]) (by first | rfl | simp))
      refine pw_ld E (pc' := 50) (st' := [.ref 116]) rfl (fun _ => rfl) ?_
      have he22 : pw_g h20 100 3 = (pw_g h17 100 3) + 1 := by rw [← h20w]; exact pw_g_eq (c := 100) (k := 3) h17I rfl rfl (by omega) (by omega)
      refine pw_getI2 h20I E (c := 100) (k := 3) (pc' := 53) rfl rfl rfl rfl rfl rfl (fun hf21a hf21b => ?_)
      refine pw_ld E (pc' := 54) (st' := [pw_i 1, pw_i (pw_g h20 100 3)]) rfl (fun _ => rfl) ?_
      refine pw_sub E (pc' := 55) rfl rfl ?_
      refine pw_iret E rfl ?_
      exact ⟨h20I, h20F, ⟨_, rfl, by omega, by omega, by omega⟩⟩
    · intro hc23
      change ¬ (x4 = (0 : Int)) at hc23
      exfalso; omega
set_option maxHeartbeats 4000000 in
theorem cm_151_m {X : List (Nat × List Value)} {d : Nat} {h : pm_H} (hd : 3 ≤ d) (I : pw_I h) (su : Int) (hsu1 : (-2147483648) ≤ su) (hsu2 : su ≤ 2147483647) (n : Int) (hn1 : (-2147483648) ≤ n) (hn2 : n ≤ 2147483647) (z : Int) (hz1 : 0 ≤ z) (hz2 : z ≤ 1) : pw X d h 151 0 [some (.ref 16), some (pw_i su), some (pw_i n), some (pw_i z)] [] (fun h' v => pw_I h' ∧ pw_E [100, 101, 102, 103] h h' ∧ ∃ a : Int, v = .inl (some (pw_i a)) ∧ (-2147483648) ≤ a ∧ a ≤ 2147483647 ∧ (((-9999) ≤ su ∧ su ≤ 9999 ∧ 1 ≤ n ∧ n ≤ 999 ∧ pw_g h 100 3 < 20 ∧ a = pw_g h 100 3 ∧ pw_g h' 100 3 = pw_g h 100 3 + 1) ∨ (¬ ((-9999) ≤ su ∧ su ≤ 9999 ∧ 1 ≤ n ∧ n ≤ 999 ∧ pw_g h 100 3 < 20) ∧ a = -1 ∧ pw_g h' 100 3 = pw_g h 100 3))) := by
  have E : pm_ent 151 = some (4, 4, 11, 0, pmc_151) := rfl
  have E0 : pw_E [100, 101, 102, 103] h h := pw_E.rf _ _
  refine pw_ld E (pc' := 1) (st' := [pw_i su]) rfl (fun _ => rfl) ?_
  refine pw_sip E (pc' := 4) rfl rfl (by decide) ?_
  refine pw_sip E (pc' := 7) rfl rfl (by decide) ?_
  refine pw_call (m' := 121) (As := [pw_i su, pw_i ((-9999)), pw_i 9999]) (rest := []) (ls'' := [some (pw_i su), some (pw_i ((-9999))), some (pw_i 9999)]) (Nat.le_trans (by decide) hd) E rfl (fun _ => pw_iS rfl rfl rfl) (rfl : pm_ent 121 = some (3, 3, 11, 1, pmc_121)) rfl rfl (cm_121 (pw_dp hd (by decide)) I (su) (by omega) (by omega) ((-9999)) (by omega) (by omega) (9999) (by omega) (by omega)) ?_
  rintro u2 v1 ⟨rfl, x3, rfl, hx3a, hx3b, hx3r⟩
  refine ⟨_, rfl, ?_⟩
  show pw X d h 151 10 [some (.ref 16), some (pw_i su), some (pw_i n), some (pw_i z)] [pw_i x3] _
  change (x3 = 1 ∧ (-9999) ≤ su ∧ su ≤ 9999) ∨ (x3 = 0 ∧ ¬ ((-9999) ≤ su ∧ su ≤ 9999)) at hx3r
  rcases (by omega : x3 = 1 ∨ x3 = 0) with hb4 | hb4
  · skip
    refine pw_if E (pc' := 34) rfl (by decide) (by omega) (by omega) ?_ ?_
    · intro hc5
      change x3 = (0 : Int) at hc5
      exfalso; omega
    · intro hc6
      change ¬ (x3 = (0 : Int)) at hc6
      refine pw_ld E (pc' := 14) (st' := [pw_i n]) rfl (fun _ => rfl) ?_
      refine pw_ld E (pc' := 15) (st' := [pw_i 1, pw_i n]) rfl (fun _ => rfl) ?_
      refine pw_sip E (pc' := 18) rfl rfl (by decide) ?_
      refine pw_call (m' := 121) (As := [pw_i n, pw_i 1, pw_i 999]) (rest := []) (ls'' := [some (pw_i n), some (pw_i 1), some (pw_i 999)]) (Nat.le_trans (by decide) hd) E rfl (fun _ => pw_iS rfl rfl rfl) (rfl : pm_ent 121 = some (3, 3, 11, 1, pmc_121)) rfl rfl (cm_121 (pw_dp hd (by decide)) I (n) (by omega) (by omega) (1) (by omega) (by omega) (999) (by omega) (by omega)) ?_
      rintro u8 v7 ⟨rfl, x9, rfl, hx9a, hx9b, hx9r⟩
      refine ⟨_, rfl, ?_⟩
      show pw X d h 151 21 [some (.ref 16), some (pw_i su), some (pw_i n), some (pw_i z)] [pw_i x9] _
      change (x9 = 1 ∧ 1 ≤ n ∧ n ≤ 999) ∨ (x9 = 0 ∧ ¬ (1 ≤ n ∧ n ≤ 999)) at hx9r
      rcases (by omega : x9 = 1 ∨ x9 = 0) with hb10 | hb10
      · skip
        refine pw_if E (pc' := 34) rfl (by decide) (by omega) (by omega) ?_ ?_
        · intro hc11
          change x9 = (0 : Int) at hc11
          exfalso; omega
        · intro hc12
          change ¬ (x9 = (0 : Int)) at hc12
          refine pw_ld E (pc' := 25) (st' := [.ref 16]) rfl (fun _ => rfl) ?_
          refine pw_getR (b := 116) I E (c := 0) (k := 18) (pc' := 28) rfl rfl rfl rfl rfl rfl rfl ?_
          obtain ⟨f13l, f13h, -⟩ := pw_obj (c := 100) I rfl
          refine pw_call (m' := 36) (As := [.ref 116]) (rest := []) (ls'' := [some (.ref 116)]) (Nat.le_trans (by decide) hd) E rfl (fun _ => pw_iV rfl rfl rfl rfl (pw_cellI f13h rfl)) (rfl : pm_ent 36 = some (1, 1, 4, 1, pmc_36)) rfl rfl (cm_36 (pw_dp hd (by decide)) I ) ?_
          rintro u15 v14 ⟨rfl, x16, rfl, hx16a, hx16b, hx16r⟩
          refine ⟨_, rfl, ?_⟩
          show pw X d h 151 31 [some (.ref 16), some (pw_i su), some (pw_i n), some (pw_i z)] [pw_i x16] _
          change (x16 = 1 ∧ 20 ≤ pw_g h 100 3) ∨ (x16 = 0 ∧ pw_g h 100 3 < 20) at hx16r
          rcases (by omega : x16 = 1 ∨ x16 = 0) with hb17 | hb17
          · skip
            refine pw_if E (pc' := 36) rfl (by decide) (by omega) (by omega) ?_ ?_
            · intro hc18
              change x16 = (0 : Int) at hc18
              exfalso; omega
            · intro hc19
              change ¬ (x16 = (0 : Int)) at hc19
              refine pw_ld E (pc' := 35) (st' := [pw_i ((-1))]) rfl (fun _ => rfl) ?_
              refine pw_iret E rfl ?_
              exact ⟨I, E0, ⟨_, rfl, by omega, by omega, by omega⟩⟩
          · skip
            refine pw_if E (pc' := 36) rfl (by decide) (by omega) (by omega) ?_ ?_
            · intro hc21
              change x16 = (0 : Int) at hc21
              refine pw_ld E (pc' := 37) (st' := [.ref 16]) rfl (fun _ => rfl) ?_
              refine pw_getR (b := 116) I E (c := 0) (k := 18) (pc' := 40) rfl rfl rfl rfl rfl rfl rfl ?_
              refine pw_ld E (pc' := 41) (st' := [pw_i su, .ref 116]) rfl (fun _ => rfl) ?_
              refine pw_ld E (pc' := 42) (st' := [pw_i n, pw_i su, .ref 116]) rfl (fun _ => rfl) ?_
              refine pw_ld E (pc' := 43) (st' := [pw_i z, pw_i n, pw_i su, .ref 116]) rfl (fun _ => rfl) ?_
              obtain ⟨f22l, f22h, -⟩ := pw_obj (c := 100) I rfl
              refine pw_call (m' := 37) (As := [.ref 116, pw_i su, pw_i n, pw_i z]) (rest := []) (ls'' := [some (.ref 116), some (pw_i su), some (pw_i n), some (pw_i z)]) (Nat.le_trans (by decide) hd) E rfl (fun _ => pw_iV rfl rfl rfl rfl (pw_cellI f22h rfl)) (rfl : pm_ent 37 = some (4, 4, 4, 0, pmc_37)) rfl rfl (cm_37_m (pw_dp hd (by decide)) I (su) (by omega) (by omega) (n) (by omega) (by omega) (z) (by omega) (by omega)) ?_
              rintro h23 v24 ⟨h23I, h23E, x25, rfl, hx25a, hx25b, hx25r⟩
              refine ⟨_, rfl, ?_⟩
              have h23F := E0.tr (h23E.wk (W' := [100, 101, 102, 103]) (by first | rfl | simp))
              show pw X d h23 151 46 [some (.ref 16), some (pw_i su), some (pw_i n), some (pw_i z)] [pw_i x25] _
              change (pw_g h 100 3 < 20 ∧ x25 = pw_g h 100 3 ∧ pw_g h23 100 3 = pw_g h 100 3 + 1) ∨ (20 ≤ pw_g h 100 3 ∧ x25 = -1 ∧ pw_g h23 100 3 = pw_g h 100 3) at hx25r
              refine pw_iret E rfl ?_
              exact ⟨h23I, h23F, ⟨_, rfl, by omega, by omega, by omega⟩⟩
            · intro hc26
              change ¬ (x16 = (0 : Int)) at hc26
              exfalso; omega
      · skip
        refine pw_if E (pc' := 34) rfl (by decide) (by omega) (by omega) ?_ ?_
        · intro hc28
          change x9 = (0 : Int) at hc28
          refine pw_ld E (pc' := 35) (st' := [pw_i ((-1))]) rfl (fun _ => rfl) ?_
          refine pw_iret E rfl ?_
          exact ⟨I, E0, ⟨_, rfl, by omega, by omega, by omega⟩⟩
        · intro hc29
          change ¬ (x9 = (0 : Int)) at hc29
          exfalso; omega
  · skip
    refine pw_if E (pc' := 34) rfl (by decide) (by omega) (by omega) ?_ ?_
    · intro hc31
      change x3 = (0 : Int) at hc31
      refine pw_ld E (pc' := 35) (st' := [pw_i ((-1))]) rfl (fun _ => rfl) ?_
      refine pw_iret E rfl ?_
      exact ⟨I, E0, ⟨_, rfl, by omega, by omega, by omega⟩⟩
    · intro hc32
      change ¬ (x3 = (0 : Int)) at hc32
      exfalso; omega
set_option maxHeartbeats 4000000 in
theorem cm_273_m {X : List (Nat × List Value)} {d : Nat} {h : pm_H} (hd : 2 ≤ d) (I : pw_I h) (su : Int) (hsu1 : (-2147483648) ≤ su) (hsu2 : su ≤ 2147483647) (n : Int) (hn1 : (-2147483648) ≤ n) (hn2 : n ≤ 2147483647) (z : Int) (hz1 : 0 ≤ z) (hz2 : z ≤ 1) : pw X d h 273 0 [some (.ref 141), some (pw_i su), some (pw_i n), some (pw_i z)] [] (fun h' v => pw_I h' ∧ pw_E [125, 154, 155, 156, 1041] h h' ∧ ∃ a : Int, v = .inl (some (pw_i a)) ∧ (-2147483648) ≤ a ∧ a ≤ 2147483647 ∧ (((-9999) ≤ su ∧ su ≤ 9999 ∧ 1 ≤ n ∧ n ≤ 999 ∧ pw_g h 125 41 < 20 ∧ a = pw_g h 125 41 ∧ pw_g h' 125 41 = pw_g h 125 41 + 1) ∨ (¬ ((-9999) ≤ su ∧ su ≤ 9999 ∧ 1 ≤ n ∧ n ≤ 999 ∧ pw_g h 125 41 < 20) ∧ a = -1 ∧ pw_g h' 125 41 = pw_g h 125 41))) := by
  have E : pm_ent 273 = some (4, 4, 12, 0, pmc_273) := rfl
  have E0 : pw_E [125, 154, 155, 156, 1041] h h := pw_E.rf _ _
  refine pw_ld E (pc' := 1) (st' := [.ref 141]) rfl (fun _ => rfl) ?_
  refine pw_ld E (pc' := 2) (st' := [pw_i 0, .ref 141]) rfl (fun _ => rfl) ?_
  refine pw_putI I E (c := 125) (k := 0) (pc' := 5) rfl rfl rfl rfl (by omega) (by omega) (by omega) (by omega) rfl rfl ?_
  intro h1I h1E
  generalize h1w : pw_w h 125 0 (pw_i 0) = h1 at h1I h1E ⊢
  have h1F := E0.tr (h1E.wk (W' := [125, 154, 155, 156, 1041]) (by first | rfl | simp))
  refine pw_ld E (pc' := 6) (st' := [pw_i su]) rfl (fun _ => rfl) ?_
  refine pw_sip E (pc' := 9) rfl rfl (by decide) ?_
  refine pw_sip E (pc' := 12) rfl rfl (by decide) ?_
  refine pw_call (m' := 202) (As := [pw_i su, pw_i ((-9999)), pw_i 9999]) (rest := []) (ls'' := [some (pw_i su), some (pw_i ((-9999))), some (pw_i 9999)]) (Nat.le_trans (by decide) hd) E rfl (fun _ => pw_iS rfl rfl rfl) (rfl : pm_ent 202 = some (3, 3, 12, 1, pmc_202)) rfl rfl (cm_202 (pw_dp hd (by decide)) h1I (su) (by omega) (by omega) ((-9999)) (by omega) (by omega) (9999) (by omega) (by omega)) ?_
  rintro u3 v2 ⟨rfl, x4, rfl, hx4a, hx4b, hx4r⟩
  refine ⟨_, rfl, ?_⟩
  show pw X d h1 273 15 [some (.ref 141), some (pw_i su), some (pw_i n), some (pw_i z)] [pw_i x4] _
  change (x4 = 1 ∧ (-9999) ≤ su ∧ su ≤ 9999) ∨ (x4 = 0 ∧ ¬ ((-9999) ≤ su ∧ su ≤ 9999)) at hx4r
  rcases (by omega : x4 = 1 ∨ x4 = 0) with hb5 | hb5
  · skip
    refine pw_if E (pc' := 38) rfl (by decide) (by omega) (by omega) ?_ ?_
    · intro hc6
      change x4 = (0 : Int) at hc6
      exfalso; omega
    · intro hc7
      change ¬ (x4 = (0 : Int)) at hc7
      refine pw_ld E (pc' := 19) (st' := [pw_i n]) rfl (fun _ => rfl) ?_
      refine pw_ld E (pc' := 20) (st' := [pw_i 1, pw_i n]) rfl (fun _ => rfl) ?_
      refine pw_sip E (pc' := 23) rfl rfl (by decide) ?_
      refine pw_call (m' := 202) (As := [pw_i n, pw_i 1, pw_i 999]) (rest := []) (ls'' := [some (pw_i n), some (pw_i 1), some (pw_i 999)]) (Nat.le_trans (by decide) hd) E rfl (fun _ => pw_iS rfl rfl rfl) (rfl : pm_ent 202 = some (3, 3, 12, 1, pmc_202)) rfl rfl (cm_202 (pw_dp hd (by decide)) h1I (n) (by omega) (by omega) (1) (by omega) (by omega) (999) (by omega) (by omega)) ?_
      rintro u9 v8 ⟨rfl, x10, rfl, hx10a, hx10b, hx10r⟩
      refine ⟨_, rfl, ?_⟩
      show pw X d h1 273 26 [some (.ref 141), some (pw_i su), some (pw_i n), some (pw_i z)] [pw_i x10] _
      change (x10 = 1 ∧ 1 ≤ n ∧ n ≤ 999) ∨ (x10 = 0 ∧ ¬ (1 ≤ n ∧ n ≤ 999)) at hx10r
      rcases (by omega : x10 = 1 ∨ x10 = 0) with hb11 | hb11
      · skip
        refine pw_if E (pc' := 38) rfl (by decide) (by omega) (by omega) ?_ ?_
        · intro hc12
          change x10 = (0 : Int) at hc12
          exfalso; omega
        · intro hc13
          change ¬ (x10 = (0 : Int)) at hc13
          refine pw_ld E (pc' := 30) (st' := [.ref 141]) rfl (fun _ => rfl) ?_
          have he15 : pw_g h1 125 41 = pw_g h 125 41 := by rw [← h1w]; exact pw_g_ne (by omega)
          refine pw_getI2 h1I E (c := 125) (k := 41) (pc' := 33) rfl rfl rfl rfl rfl rfl (fun hf14a hf14b => ?_)
          refine pw_bip E (pc' := 35) rfl rfl (by decide) ?_
          refine pw_if2 E (pc' := 40) rfl (by decide) (by omega) (by omega) (by decide) (by decide) ?_ ?_
          · intro hc16
            change pw_g h1 125 41 ≠ (20 : Int) at hc16
            refine pw_ld E (pc' := 41) (st' := [.ref 141]) rfl (fun _ => rfl) ?_
            refine pw_getR (b := 170) h1I E (c := 125) (k := 42) (pc' := 44) rfl rfl rfl rfl rfl rfl rfl ?_
            refine pw_ld E (pc' := 45) (st' := [.ref 141, .ref 170]) rfl (fun _ => rfl) ?_
            refine pw_getI2 h1I E (c := 125) (k := 41) (pc' := 48) rfl rfl rfl rfl rfl rfl (fun hf17a hf17b => ?_)
            refine pw_ld E (pc' := 49) (st' := [pw_i su, pw_i (pw_g h1 125 41), .ref 170]) rfl (fun _ => rfl) ?_
            refine pw_ast0 h1I E (c := 154) (pc' := 50) rfl rfl rfl (by decide) rfl (by decide) (by omega) (by omega) rfl (by omega) (by omega) (by omega) (by omega) rfl ?_
            intro h18I h18E
            generalize h18w : pw_w h1 154 ((pw_g h1 125 41).toNat) (pw_i su) = h18 at h18I h18E ⊢
            have h18F := h1F.tr (h18E.wk (W' := [125, 154, 155, 156, 1041]) (by first | rfl | simp))
            refine pw_ld E (pc' := 51) (st' := [.ref 141]) rfl (fun _ => rfl) ?_
            refine pw_getR (b := 171) h18I E (c := 125) (k := 43) (pc' := 54) rfl rfl rfl rfl rfl rfl rfl ?_
            refine pw_ld E (pc' := 55) (st' := [.ref 141, .ref 171]) rfl (fun _ => rfl) ?_
            have he20 : pw_g h18 125 41 = pw_g h1 125 41 := by rw [← h18w]; exact pw_g_ne (by omega)
            refine pw_getI2 h18I E (c := 125) (k := 41) (pc' := 58) rfl rfl rfl rfl rfl rfl (fun hf19a hf19b => ?_)
            refine pw_ld E (pc' := 59) (st' := [pw_i n, pw_i (pw_g h18 125 41), .ref 171]) rfl (fun _ => rfl) ?_
            refine pw_ast0 h18I E (c := 155) (pc' := 60) rfl rfl rfl (by decide) rfl (by decide) (by omega) (by omega) rfl (by omega) (by omega) (by omega) (by omega) rfl ?_
            intro h21I h21E
            generalize h21w : pw_w h18 155 ((pw_g h18 125 41).toNat) (pw_i n) = h21 at h21I h21E ⊢
            have h21F := h18F.tr (h21E.wk (W' := [125, 154, 155, 156, 1041]) (by first | rfl | simp))
            refine pw_ld E (pc' := 61) (st' := [.ref 141]) rfl (fun _ => rfl) ?_
            refine pw_getR (b := 172) h21I E (c := 125) (k := 44) (pc' := 64) rfl rfl rfl rfl rfl rfl rfl ?_
            refine pw_ld E (pc' := 65) (st' := [.ref 141, .ref 172]) rfl (fun _ => rfl) ?_
            have he23 : pw_g h21 125 41 = pw_g h18 125 41 := by rw [← h21w]; exact pw_g_ne (by omega)
            refine pw_getI2 h21I E (c := 125) (k := 41) (pc' := 68) rfl rfl rfl rfl rfl rfl (fun hf22a hf22b => ?_)
            refine pw_ld E (pc' := 69) (st' := [pw_i z, pw_i (pw_g h21 125 41), .ref 172]) rfl (fun _ => rfl) ?_
            refine pw_ast0 h21I E (c := 156) (pc' := 70) rfl rfl rfl (by decide) rfl (by decide) (by omega) (by omega) (pw_b1 (by omega) (by omega)) (by omega) (by omega) (by omega) (by omega) rfl ?_
            intro h24I h24E
            generalize h24w : pw_w h21 156 ((pw_g h21 125 41).toNat) (pw_i z) = h24 at h24I h24E ⊢
            have h24F := h21F.tr (h24E.wk (W' := [125, 154, 155, 156, 1041]) (by first | rfl | simp))
            refine pw_ld E (pc' := 71) (st' := [.ref 141]) rfl (fun _ => rfl) ?_
            refine pw_ld E (pc' := 72) (st' := [.ref 141, .ref 141]) rfl (fun _ => rfl) ?_
            have he26 : pw_g h24 125 41 = pw_g h21 125 41 := by rw [← h24w]; exact pw_g_ne (by omega)
            refine pw_getI2 h24I E (c := 125) (k := 41) (pc' := 75) rfl rfl rfl rfl rfl rfl (fun hf25a hf25b => ?_)
            refine pw_ld E (pc' := 76) (st' := [pw_i 1, pw_i (pw_g h24 125 41), .ref 141]) rfl (fun _ => rfl) ?_
            refine pw_add E (pc' := 77) rfl rfl ?_
            refine pw_putP h24I E (k := 41) (pc' := 80) rfl rfl rfl rfl (by omega) (by omega) (by omega) (by omega) rfl rfl ?_
            intro h27I h27E
            generalize h27w : pw_w h24 125 41 (pw_i ((pw_g h24 125 41) + 1)) = h27 at h27I h27E ⊢
            have h27F := h24F.tr (h27E.wk (W' := [125, 154, 155, 156, 1041]) (by first | rfl | simp))
            refine pw_ld E (pc' := 81) (st' := [.ref 141]) rfl (fun _ => rfl) ?_
            have he29 : pw_g h27 125 41 = (pw_g h24 125 41) + 1 := by rw [← h27w]; exact pw_g_eq (c := 125) (k := 41) h24I rfl rfl (by omega) (by omega)
            refine pw_getI2 h27I E (c := 125) (k := 41) (pc' := 84) rfl rfl rfl rfl rfl rfl (fun hf28a hf28b => ?_)
            refine pw_ld E (pc' := 85) (st' := [pw_i 1, pw_i (pw_g h27 125 41)]) rfl (fun _ => rfl) ?_
            refine pw_sub E (pc' := 86) rfl rfl ?_
            refine pw_iret E rfl ?_
            exact ⟨h27I, h27F, ⟨_, rfl, by omega, by omega, by omega⟩⟩
          · intro hc30
            change ¬ (pw_g h1 125 41 ≠ (20 : Int)) at hc30
            refine pw_ld E (pc' := 39) (st' := [pw_i ((-1))]) rfl (fun _ => rfl) ?_
            refine pw_iret E rfl ?_
            exact ⟨h1I, h1F, ⟨_, rfl, by omega, by omega, by omega⟩⟩
      · skip
        refine pw_if E (pc' := 38) rfl (by decide) (by omega) (by omega) ?_ ?_
        · intro hc32
          change x10 = (0 : Int) at hc32
          refine pw_ld E (pc' := 39) (st' := [pw_i ((-1))]) rfl (fun _ => rfl) ?_
          have he33 : pw_g h1 125 41 = pw_g h 125 41 := by rw [← h1w]; exact pw_g_ne (by omega)
          refine pw_iret E rfl ?_
          exact ⟨h1I, h1F, ⟨_, rfl, by omega, by omega, by omega⟩⟩
        · intro hc34
          change ¬ (x10 = (0 : Int)) at hc34
          exfalso; omega
  · skip
    refine pw_if E (pc' := 38) rfl (by decide) (by omega) (by omega) ?_ ?_
    · intro hc36
      change x4 = (0 : Int) at hc36
      refine pw_ld E (pc' := 39) (st' := [pw_i ((-1))]) rfl (fun _ => rfl) ?_
      have he37 : pw_g h1 125 41 = pw_g h 125 41 := by rw [← h1w]; exact pw_g_ne (by omega)
      refine pw_iret E rfl ?_
      exact ⟨h1I, h1F, ⟨_, rfl, by omega, by omega, by omega⟩⟩
    · intro hc38
      change ¬ (x4 = (0 : Int)) at hc38
      exfalso; omega
set_option maxHeartbeats 4000000 in
theorem cm_32_105m {X : List (Nat × List Value)} {d : Nat} {h : pm_H} (hd : 1 ≤ d) (I : pw_I h)  : pw X d h 32 0 [some (.ref 121)] [] (fun h' v => h = h' ∧ ∃ a : Int, v = .inl (some (pw_i a)) ∧ 0 ≤ a ∧ a ≤ 1 ∧ (a = pw_g h 105 3)) := by
  have E : pm_ent 32 = some (1, 1, 3, 1, pmc_32) := rfl
  refine pw_ld E (pc' := 1) (st' := [.ref 121]) rfl (fun _ => rfl) ?_
  refine pw_getI2 I E (c := 105) (k := 3) (pc' := 4) rfl rfl rfl rfl rfl rfl (fun hf1a hf1b => ?_)
  refine pw_zret E rfl (by omega) ?_
  exact ⟨rfl, ⟨_, rfl, by omega, by omega, by omega⟩⟩
set_option maxHeartbeats 4000000 in
theorem cm_33_105m {X : List (Nat × List Value)} {d : Nat} {h : pm_H} (hd : 1 ≤ d) (I : pw_I h)  : pw X d h 33 0 [some (.ref 121)] [] (fun h' v => h = h' ∧ ∃ a : Int, v = .inl (some (pw_i a)) ∧ 0 ≤ a ∧ a ≤ 20 ∧ (a = pw_g h 105 2)) := by
  have E : pm_ent 33 = some (1, 1, 3, 0, pmc_33) := rfl
  refine pw_ld E (pc' := 1) (st' := [.ref 121]) rfl (fun _ => rfl) ?_
  refine pw_getI2 I E (c := 105) (k := 2) (pc' := 4) rfl rfl rfl rfl rfl rfl (fun hf1a hf1b => ?_)
  refine pw_iret E rfl ?_
  exact ⟨rfl, ⟨_, rfl, by omega, by omega, by omega⟩⟩
set_option maxHeartbeats 4000000 in
theorem cm_32_110m {X : List (Nat × List Value)} {d : Nat} {h : pm_H} (hd : 1 ≤ d) (I : pw_I h)  : pw X d h 32 0 [some (.ref 126)] [] (fun h' v => h = h' ∧ ∃ a : Int, v = .inl (some (pw_i a)) ∧ 0 ≤ a ∧ a ≤ 1 ∧ (a = pw_g h 110 3)) := by
  have E : pm_ent 32 = some (1, 1, 3, 1, pmc_32) := rfl
  refine pw_ld E (pc' := 1) (st' := [.ref 126]) rfl (fun _ => rfl) ?_
  refine pw_getI2 I E (c := 110) (k := 3) (pc' := 4) rfl rfl rfl rfl rfl rfl (fun hf1a hf1b => ?_)
  refine pw_zret E rfl (by omega) ?_
  exact ⟨rfl, ⟨_, rfl, by omega, by omega, by omega⟩⟩
set_option maxHeartbeats 4000000 in
theorem cm_33_110m {X : List (Nat × List Value)} {d : Nat} {h : pm_H} (hd : 1 ≤ d) (I : pw_I h)  : pw X d h 33 0 [some (.ref 126)] [] (fun h' v => h = h' ∧ ∃ a : Int, v = .inl (some (pw_i a)) ∧ 0 ≤ a ∧ a ≤ 20 ∧ (a = pw_g h 110 2)) := by
  have E : pm_ent 33 = some (1, 1, 3, 0, pmc_33) := rfl
  refine pw_ld E (pc' := 1) (st' := [.ref 126]) rfl (fun _ => rfl) ?_
  refine pw_getI2 I E (c := 110) (k := 2) (pc' := 4) rfl rfl rfl rfl rfl rfl (fun hf1a hf1b => ?_)
  refine pw_iret E rfl ?_
  exact ⟨rfl, ⟨_, rfl, by omega, by omega, by omega⟩⟩
set_option maxHeartbeats 4000000 in
theorem cm_32_115m {X : List (Nat × List Value)} {d : Nat} {h : pm_H} (hd : 1 ≤ d) (I : pw_I h)  : pw X d h 32 0 [some (.ref 131)] [] (fun h' v => h = h' ∧ ∃ a : Int, v = .inl (some (pw_i a)) ∧ 0 ≤ a ∧ a ≤ 1 ∧ (a = pw_g h 115 3)) := by
  have E : pm_ent 32 = some (1, 1, 3, 1, pmc_32) := rfl
  refine pw_ld E (pc' := 1) (st' := [.ref 131]) rfl (fun _ => rfl) ?_
  refine pw_getI2 I E (c := 115) (k := 3) (pc' := 4) rfl rfl rfl rfl rfl rfl (fun hf1a hf1b => ?_)
  refine pw_zret E rfl (by omega) ?_
  exact ⟨rfl, ⟨_, rfl, by omega, by omega, by omega⟩⟩
set_option maxHeartbeats 4000000 in
theorem cm_33_115m {X : List (Nat × List Value)} {d : Nat} {h : pm_H} (hd : 1 ≤ d) (I : pw_I h)  : pw X d h 33 0 [some (.ref 131)] [] (fun h' v => h = h' ∧ ∃ a : Int, v = .inl (some (pw_i a)) ∧ 0 ≤ a ∧ a ≤ 20 ∧ (a = pw_g h 115 2)) := by
  have E : pm_ent 33 = some (1, 1, 3, 0, pmc_33) := rfl
  refine pw_ld E (pc' := 1) (st' := [.ref 131]) rfl (fun _ => rfl) ?_
  refine pw_getI2 I E (c := 115) (k := 2) (pc' := 4) rfl rfl rfl rfl rfl rfl (fun hf1a hf1b => ?_)
  refine pw_iret E rfl ?_
  exact ⟨rfl, ⟨_, rfl, by omega, by omega, by omega⟩⟩
set_option maxHeartbeats 4000000 in
theorem cm_32_120m {X : List (Nat × List Value)} {d : Nat} {h : pm_H} (hd : 1 ≤ d) (I : pw_I h)  : pw X d h 32 0 [some (.ref 136)] [] (fun h' v => h = h' ∧ ∃ a : Int, v = .inl (some (pw_i a)) ∧ 0 ≤ a ∧ a ≤ 1 ∧ (a = pw_g h 120 3)) := by
  have E : pm_ent 32 = some (1, 1, 3, 1, pmc_32) := rfl
  refine pw_ld E (pc' := 1) (st' := [.ref 136]) rfl (fun _ => rfl) ?_
  refine pw_getI2 I E (c := 120) (k := 3) (pc' := 4) rfl rfl rfl rfl rfl rfl (fun hf1a hf1b => ?_)
  refine pw_zret E rfl (by omega) ?_
  exact ⟨rfl, ⟨_, rfl, by omega, by omega, by omega⟩⟩
set_option maxHeartbeats 4000000 in
theorem cm_33_120m {X : List (Nat × List Value)} {d : Nat} {h : pm_H} (hd : 1 ≤ d) (I : pw_I h)  : pw X d h 33 0 [some (.ref 136)] [] (fun h' v => h = h' ∧ ∃ a : Int, v = .inl (some (pw_i a)) ∧ 0 ≤ a ∧ a ≤ 20 ∧ (a = pw_g h 120 2)) := by
  have E : pm_ent 33 = some (1, 1, 3, 0, pmc_33) := rfl
  refine pw_ld E (pc' := 1) (st' := [.ref 136]) rfl (fun _ => rfl) ?_
  refine pw_getI2 I E (c := 120) (k := 2) (pc' := 4) rfl rfl rfl rfl rfl rfl (fun hf1a hf1b => ?_)
  refine pw_iret E rfl ?_
  exact ⟨rfl, ⟨_, rfl, by omega, by omega, by omega⟩⟩
end
section
/-! who is told, exactly (printed by wip/tool/mtold.py) -/
set_option maxHeartbeats 4000000 in
theorem cm_58_t {X : List (Nat × List Value)} {d : Nat} {h : pm_H} (hd : 1 ≤ d) (I : pw_I h) (k : Int) (hk1 : 0 ≤ k) (hk2 : k ≤ 23) (b : Int) (hb1 : 0 ≤ b) (hb2 : b ≤ 1) (w : Int) (hw1 : 0 ≤ w) (hw2 : w ≤ 999) (mx : Int) (hmx1 : 0 ≤ mx) (hmx2 : mx ≤ 99) (z : Int) (hz1 : 0 ≤ z) (hz2 : z ≤ 1) : pw X d h 58 0 [some (.ref 17), some (pw_i k), some (pw_i b), some (pw_i w), some (pw_i mx), some (pw_i z)] [] (fun h' v => pw_I h' ∧ pw_E [2, 3, 4, 5, 6] h h' ∧ (pw_g h' 2 k.toNat = 1 ∧ ∀ j : Nat, j ≠ k.toNat → pw_g h' 2 j = pw_g h 2 j) ∧ (v = .inl none)) := by
  have E : pm_ent 58 = some (6, 6, 6, 4, pmc_58) := rfl
  have E0 : pw_E [2, 3, 4, 5, 6] h h := pw_E.rf _ _
  refine pw_ld E (pc' := 1) (st' := [.ref 17]) rfl (fun _ => rfl) ?_
  refine pw_getR (b := 18) I E (c := 1) (k := 0) (pc' := 4) rfl rfl rfl rfl rfl rfl rfl ?_
  refine pw_ld E (pc' := 5) (st' := [pw_i k, .ref 18]) rfl (fun _ => rfl) ?_
  refine pw_ld E (pc' := 6) (st' := [pw_i 1, pw_i k, .ref 18]) rfl (fun _ => rfl) ?_
  refine pw_ast0 I E (c := 2) (pc' := 7) rfl rfl rfl (by decide) rfl (by decide) (by omega) (by omega) (pw_b1 (by omega) (by omega)) (by omega) (by omega) (by omega) (by omega) rfl ?_
  intro h1I h1E
  generalize h1w : pw_w h 2 (k.toNat) (pw_i 1) = h1 at h1I h1E ⊢
  have h1F := E0.tr (h1E.wk (W' := [2, 3, 4, 5, 6]) (by first | rfl | simp))
  refine pw_ld E (pc' := 8) (st' := [.ref 17]) rfl (fun _ => rfl) ?_
  refine pw_getR (b := 19) h1I E (c := 1) (k := 1) (pc' := 11) rfl rfl rfl rfl rfl rfl rfl ?_
  refine pw_ld E (pc' := 12) (st' := [pw_i k, .ref 19]) rfl (fun _ => rfl) ?_
  refine pw_ld E (pc' := 14) (st' := [pw_i z, pw_i k, .ref 19]) rfl (fun _ => rfl) ?_
  refine pw_ast0 h1I E (c := 3) (pc' := 15) rfl rfl rfl (by decide) rfl (by decide) (by omega) (by omega) (pw_b1 (by omega) (by omega)) (by omega) (by omega) (by omega) (by omega) rfl ?_
  intro h2I h2E
  generalize h2w : pw_w h1 3 (k.toNat) (pw_i z) = h2 at h2I h2E ⊢
  have h2F := h1F.tr (h2E.wk (W' := [2, 3, 4, 5, 6]) (by first | rfl | simp))
  refine pw_ld E (pc' := 16) (st' := [.ref 17]) rfl (fun _ => rfl) ?_
  refine pw_getR (b := 20) h2I E (c := 1) (k := 2) (pc' := 19) rfl rfl rfl rfl rfl rfl rfl ?_
  refine pw_ld E (pc' := 20) (st' := [pw_i k, .ref 20]) rfl (fun _ => rfl) ?_
  refine pw_ld E (pc' := 21) (st' := [pw_i b, pw_i k, .ref 20]) rfl (fun _ => rfl) ?_
  refine pw_ast0 h2I E (c := 4) (pc' := 22) rfl rfl rfl (by decide) rfl (by decide) (by omega) (by omega) rfl (by omega) (by omega) (by omega) (by omega) rfl ?_
  intro h3I h3E
  generalize h3w : pw_w h2 4 (k.toNat) (pw_i b) = h3 at h3I h3E ⊢
  have h3F := h2F.tr (h3E.wk (W' := [2, 3, 4, 5, 6]) (by first | rfl | simp))
  refine pw_ld E (pc' := 23) (st' := [.ref 17]) rfl (fun _ => rfl) ?_
  refine pw_getR (b := 21) h3I E (c := 1) (k := 3) (pc' := 26) rfl rfl rfl rfl rfl rfl rfl ?_
  refine pw_ld E (pc' := 27) (st' := [pw_i k, .ref 21]) rfl (fun _ => rfl) ?_
  refine pw_ld E (pc' := 28) (st' := [pw_i w, pw_i k, .ref 21]) rfl (fun _ => rfl) ?_
  refine pw_ast0 h3I E (c := 5) (pc' := 29) rfl rfl rfl (by decide) rfl (by decide) (by omega) (by omega) rfl (by omega) (by omega) (by omega) (by omega) rfl ?_
  intro h4I h4E
  generalize h4w : pw_w h3 5 (k.toNat) (pw_i w) = h4 at h4I h4E ⊢
  have h4F := h3F.tr (h4E.wk (W' := [2, 3, 4, 5, 6]) (by first | rfl | simp))
  refine pw_ld E (pc' := 30) (st' := [.ref 17]) rfl (fun _ => rfl) ?_
  refine pw_getR (b := 22) h4I E (c := 1) (k := 4) (pc' := 33) rfl rfl rfl rfl rfl rfl rfl ?_
  refine pw_ld E (pc' := 34) (st' := [pw_i k, .ref 22]) rfl (fun _ => rfl) ?_
  refine pw_ld E (pc' := 36) (st' := [pw_i mx, pw_i k, .ref 22]) rfl (fun _ => rfl) ?_
  refine pw_ast0 h4I E (c := 6) (pc' := 37) rfl rfl rfl (by decide) rfl (by decide) (by omega) (by omega) rfl (by omega) (by omega) (by omega) (by omega) rfl ?_
  intro h5I h5E
  generalize h5w : pw_w h4 6 (k.toNat) (pw_i mx) = h5 at h5I h5E ⊢
  have h5F := h4F.tr (h5E.wk (W' := [2, 3, 4, 5, 6]) (by first | rfl | simp))
  refine pw_vret E rfl ?_
  have hl6 : ∀ j : Nat, pw_g h5 2 j = pw_g h1 2 j := fun j => ((((by rw [← h5w]; exact pw_g_ne (by omega) : pw_g h5 2 j = pw_g h4 2 j)).trans (by rw [← h4w]; exact pw_g_ne (by omega) : pw_g h4 2 j = pw_g h3 2 j)).trans (by rw [← h3w]; exact pw_g_ne (by omega) : pw_g h3 2 j = pw_g h2 2 j)).trans (by rw [← h2w]; exact pw_g_ne (by omega) : pw_g h2 2 j = pw_g h1 2 j)
  have hl7 : ∀ j : Nat, pw_g h 2 j = pw_g h 2 j := fun j => rfl
  have hp1 : pw_g h1 2 (k.toNat) = 1 := by rw [← h1w]; exact pw_g_eqA I rfl (by omega) (by omega) (by omega)
  have hp2 : ∀ j : Nat, j ≠ k.toNat → pw_g h1 2 j = pw_g h 2 j := fun j hj => by rw [← h1w]; exact pw_g_ne (fun q => hj q.2.symm)
  exact ⟨h5I, h5F, ⟨(hl6 _).trans hp1, fun j hj => (hl6 j).trans ((hp2 j hj).trans (hl7 j))⟩, rfl⟩
set_option maxHeartbeats 4000000 in
theorem cm_119_t {X : List (Nat × List Value)} {d : Nat} {h : pm_H} (hd : 3 ≤ d) (I : pw_I h) (k : Int) (hk1 : (-2147483648) ≤ k) (hk2 : k ≤ 2147483647) (b : Int) (hb1 : (-2147483648) ≤ b) (hb2 : b ≤ 2147483647) (w : Int) (hw1 : (-2147483648) ≤ w) (hw2 : w ≤ 2147483647) (mx : Int) (hmx1 : (-2147483648) ≤ mx) (hmx2 : mx ≤ 2147483647) (z : Int) (hz1 : 0 ≤ z) (hz2 : z ≤ 1) : pw X d h 119 0 [some (.ref 16), some (pw_i k), some (pw_i b), some (pw_i w), some (pw_i mx), some (pw_i z)] [] (fun h' v => pw_I h' ∧ pw_E [2, 3, 4, 5, 6] h h' ∧ ∃ a : Int, v = .inl (some (pw_i a)) ∧ 0 ≤ a ∧ a ≤ 1 ∧ (((a = 1 ∧ 0 ≤ k ∧ k ≤ 23 ∧ 0 ≤ b ∧ b ≤ 1 ∧ 0 ≤ w ∧ w ≤ 999 ∧ 0 ≤ mx ∧ mx ≤ 99) ∨ (a = 0 ∧ ¬ (0 ≤ k ∧ k ≤ 23 ∧ 0 ≤ b ∧ b ≤ 1 ∧ 0 ≤ w ∧ w ≤ 999 ∧ 0 ≤ mx ∧ mx ≤ 99))) ∧ (a = 1 → pw_g h' 2 k.toNat = 1 ∧ ∀ j : Nat, j ≠ k.toNat → pw_g h' 2 j = pw_g h 2 j) ∧ (a = 0 → ∀ j : Nat, pw_g h' 2 j = pw_g h 2 j))) := by
  have E : pm_ent 119 = some (6, 6, 11, 1, pmc_119) := rfl
  have E0 : pw_E [2, 3, 4, 5, 6] h h := pw_E.rf _ _
  refine pw_ld E (pc' := 1) (st' := [pw_i k]) rfl (fun _ => rfl) ?_
  refine pw_call (m' := 120) (As := [pw_i k]) (rest := []) (ls'' := [some (pw_i k)]) (Nat.le_trans (by decide) hd) E rfl (fun _ => pw_iS rfl rfl rfl) (rfl : pm_ent 120 = some (1, 1, 11, 1, pmc_120)) rfl rfl (cm_120 (pw_dp hd (by decide)) I (k) (by omega) (by omega)) ?_
  rintro u2 v1 ⟨rfl, x3, rfl, hx3a, hx3b, hx3r⟩
  refine ⟨_, rfl, ?_⟩
  show pw X d h 119 4 [some (.ref 16), some (pw_i k), some (pw_i b), some (pw_i w), some (pw_i mx), some (pw_i z)] [pw_i x3] _
  change (x3 = 1 ∧ 0 ≤ k ∧ k ≤ 23) ∨ (x3 = 0 ∧ ¬ (0 ≤ k ∧ k ≤ 23)) at hx3r
  rcases (by omega : x3 = 1 ∨ x3 = 0) with hb4 | hb4
  · skip
    refine pw_if E (pc' := 36) rfl (by decide) (by omega) (by omega) ?_ ?_
    · intro hc5
      change x3 = (0 : Int) at hc5
      exfalso; omega
    · intro hc6
      change ¬ (x3 = (0 : Int)) at hc6
      refine pw_ld E (pc' := 8) (st' := [pw_i b]) rfl (fun _ => rfl) ?_
      refine pw_call (m' := 122) (As := [pw_i b]) (rest := []) (ls'' := [some (pw_i b)]) (Nat.le_trans (by decide) hd) E rfl (fun _ => pw_iS rfl rfl rfl) (rfl : pm_ent 122 = some (1, 1, 11, 1, pmc_122)) rfl rfl (cm_122 (pw_dp hd (by decide)) I (b) (by omega) (by omega)) ?_
      rintro u8 v7 ⟨rfl, x9, rfl, hx9a, hx9b, hx9r⟩
      refine ⟨_, rfl, ?_⟩
      show pw X d h 119 11 [some (.ref 16), some (pw_i k), some (pw_i b), some (pw_i w), some (pw_i mx), some (pw_i z)] [pw_i x9] _
      change (x9 = 1 ∧ 0 ≤ b ∧ b ≤ 1) ∨ (x9 = 0 ∧ ¬ (0 ≤ b ∧ b ≤ 1)) at hx9r
      rcases (by omega : x9 = 1 ∨ x9 = 0) with hb10 | hb10
      · skip
        refine pw_if E (pc' := 36) rfl (by decide) (by omega) (by omega) ?_ ?_
        · intro hc11
          change x9 = (0 : Int) at hc11
          exfalso; omega
        · intro hc12
          change ¬ (x9 = (0 : Int)) at hc12
          refine pw_ld E (pc' := 15) (st' := [pw_i w]) rfl (fun _ => rfl) ?_
          refine pw_ld E (pc' := 16) (st' := [pw_i 0, pw_i w]) rfl (fun _ => rfl) ?_
          refine pw_sip E (pc' := 19) rfl rfl (by decide) ?_
          refine pw_call (m' := 121) (As := [pw_i w, pw_i 0, pw_i 999]) (rest := []) (ls'' := [some (pw_i w), some (pw_i 0), some (pw_i 999)]) (Nat.le_trans (by decide) hd) E rfl (fun _ => pw_iS rfl rfl rfl) (rfl : pm_ent 121 = some (3, 3, 11, 1, pmc_121)) rfl rfl (cm_121 (pw_dp hd (by decide)) I (w) (by omega) (by omega) (0) (by omega) (by omega) (999) (by omega) (by omega)) ?_
          rintro u14 v13 ⟨rfl, x15, rfl, hx15a, hx15b, hx15r⟩
          refine ⟨_, rfl, ?_⟩
          show pw X d h 119 22 [some (.ref 16), some (pw_i k), some (pw_i b), some (pw_i w), some (pw_i mx), some (pw_i z)] [pw_i x15] _
          change (x15 = 1 ∧ 0 ≤ w ∧ w ≤ 999) ∨ (x15 = 0 ∧ ¬ (0 ≤ w ∧ w ≤ 999)) at hx15r
          rcases (by omega : x15 = 1 ∨ x15 = 0) with hb16 | hb16
          · skip
            refine pw_if E (pc' := 36) rfl (by decide) (by omega) (by omega) ?_ ?_
            · intro hc17
              change x15 = (0 : Int) at hc17
              exfalso; omega
            · intro hc18
              change ¬ (x15 = (0 : Int)) at hc18
              refine pw_ld E (pc' := 27) (st' := [pw_i mx]) rfl (fun _ => rfl) ?_
              refine pw_ld E (pc' := 28) (st' := [pw_i 0, pw_i mx]) rfl (fun _ => rfl) ?_
              refine pw_bip E (pc' := 30) rfl rfl (by decide) ?_
              refine pw_call (m' := 121) (As := [pw_i mx, pw_i 0, pw_i 99]) (rest := []) (ls'' := [some (pw_i mx), some (pw_i 0), some (pw_i 99)]) (Nat.le_trans (by decide) hd) E rfl (fun _ => pw_iS rfl rfl rfl) (rfl : pm_ent 121 = some (3, 3, 11, 1, pmc_121)) rfl rfl (cm_121 (pw_dp hd (by decide)) I (mx) (by omega) (by omega) (0) (by omega) (by omega) (99) (by omega) (by omega)) ?_
              rintro u20 v19 ⟨rfl, x21, rfl, hx21a, hx21b, hx21r⟩
              refine ⟨_, rfl, ?_⟩
              show pw X d h 119 33 [some (.ref 16), some (pw_i k), some (pw_i b), some (pw_i w), some (pw_i mx), some (pw_i z)] [pw_i x21] _
              change (x21 = 1 ∧ 0 ≤ mx ∧ mx ≤ 99) ∨ (x21 = 0 ∧ ¬ (0 ≤ mx ∧ mx ≤ 99)) at hx21r
              rcases (by omega : x21 = 1 ∨ x21 = 0) with hb22 | hb22
              · skip
                refine pw_if E (pc' := 38) rfl (by decide) (by omega) (by omega) ?_ ?_
                · intro hc23
                  change x21 ≠ (0 : Int) at hc23
                  refine pw_ld E (pc' := 39) (st' := [.ref 16]) rfl (fun _ => rfl) ?_
                  refine pw_getR (b := 17) I E (c := 0) (k := 0) (pc' := 42) rfl rfl rfl rfl rfl rfl rfl ?_
                  refine pw_ld E (pc' := 43) (st' := [pw_i k, .ref 17]) rfl (fun _ => rfl) ?_
                  refine pw_ld E (pc' := 44) (st' := [pw_i b, pw_i k, .ref 17]) rfl (fun _ => rfl) ?_
                  refine pw_ld E (pc' := 45) (st' := [pw_i w, pw_i b, pw_i k, .ref 17]) rfl (fun _ => rfl) ?_
                  refine pw_ld E (pc' := 47) (st' := [pw_i mx, pw_i w, pw_i b, pw_i k, .ref 17]) rfl (fun _ => rfl) ?_
                  refine pw_ld E (pc' := 49) (st' := [pw_i z, pw_i mx, pw_i w, pw_i b, pw_i k, .ref 17]) rfl (fun _ => rfl) ?_
                  obtain ⟨f24l, f24h, -⟩ := pw_obj (c := 1) I rfl
                  refine pw_call (m' := 58) (As := [.ref 17, pw_i k, pw_i b, pw_i w, pw_i mx, pw_i z]) (rest := []) (ls'' := [some (.ref 17), some (pw_i k), some (pw_i b), some (pw_i w), some (pw_i mx), some (pw_i z)]) (Nat.le_trans (by decide) hd) E rfl (fun _ => pw_iV rfl rfl rfl rfl (pw_cellI f24h rfl)) (rfl : pm_ent 58 = some (6, 6, 6, 4, pmc_58)) rfl rfl (cm_58_t (pw_dp hd (by decide)) I (k) (by omega) (by omega) (b) (by omega) (by omega) (w) (by omega) (by omega) (mx) (by omega) (by omega) (z) (by omega) (by omega)) ?_
                  rintro h25 v26 ⟨h25I, h25E, hqput, rfl⟩
                  refine ⟨_, rfl, ?_⟩
                  have h25F := E0.tr (h25E.wk (W' := [2, 3, 4, 5, 6]) (by first | rfl | simp))
                  show pw X d h25 119 52 [some (.ref 16), some (pw_i k), some (pw_i b), some (pw_i w), some (pw_i mx), some (pw_i z)] [] _
                  refine pw_ld E (pc' := 53) (st' := [pw_i 1]) rfl (fun _ => rfl) ?_
                  refine pw_zret E rfl (by omega) ?_
                  exact ⟨h25I, h25F, ⟨_, rfl, by omega, by omega, by omega, fun _ => hqput, fun q => by omega⟩⟩
                · intro hc27
                  change ¬ (x21 ≠ (0 : Int)) at hc27
                  exfalso; omega
              · skip
                refine pw_if E (pc' := 38) rfl (by decide) (by omega) (by omega) ?_ ?_
                · intro hc29
                  change x21 ≠ (0 : Int) at hc29
                  exfalso; omega
                · intro hc30
                  change ¬ (x21 ≠ (0 : Int)) at hc30
                  refine pw_ld E (pc' := 37) (st' := [pw_i 0]) rfl (fun _ => rfl) ?_
                  refine pw_zret E rfl (by omega) ?_
                  have hl31 : ∀ j : Nat, pw_g h 2 j = pw_g h 2 j := fun j => rfl
                  exact ⟨I, E0, ⟨_, rfl, by omega, by omega, by omega, fun q => by omega, fun _ => hl31⟩⟩
          · skip
            refine pw_if E (pc' := 36) rfl (by decide) (by omega) (by omega) ?_ ?_
            · intro hc33
              change x15 = (0 : Int) at hc33
              refine pw_ld E (pc' := 37) (st' := [pw_i 0]) rfl (fun _ => rfl) ?_
              refine pw_zret E rfl (by omega) ?_
              have hl34 : ∀ j : Nat, pw_g h 2 j = pw_g h 2 j := fun j => rfl
              exact ⟨I, E0, ⟨_, rfl, by omega, by omega, by omega, fun q => by omega, fun _ => hl34⟩⟩
            · intro hc35
              change ¬ (x15 = (0 : Int)) at hc35
              exfalso; omega
      · skip
        refine pw_if E (pc' := 36) rfl (by decide) (by omega) (by omega) ?_ ?_
        · intro hc37
          change x9 = (0 : Int) at hc37
          refine pw_ld E (pc' := 37) (st' := [pw_i 0]) rfl (fun _ => rfl) ?_
          refine pw_zret E rfl (by omega) ?_
          have hl38 : ∀ j : Nat, pw_g h 2 j = pw_g h 2 j := fun j => rfl
          exact ⟨I, E0, ⟨_, rfl, by omega, by omega, by omega, fun q => by omega, fun _ => hl38⟩⟩
        · intro hc39
          change ¬ (x9 = (0 : Int)) at hc39
          exfalso; omega
  · skip
    refine pw_if E (pc' := 36) rfl (by decide) (by omega) (by omega) ?_ ?_
    · intro hc41
      change x3 = (0 : Int) at hc41
      refine pw_ld E (pc' := 37) (st' := [pw_i 0]) rfl (fun _ => rfl) ?_
      refine pw_zret E rfl (by omega) ?_
      have hl42 : ∀ j : Nat, pw_g h 2 j = pw_g h 2 j := fun j => rfl
      exact ⟨I, E0, ⟨_, rfl, by omega, by omega, by omega, fun q => by omega, fun _ => hl42⟩⟩
    · intro hc43
      change ¬ (x3 = (0 : Int)) at hc43
      exfalso; omega
set_option maxHeartbeats 4000000 in
theorem cm_201_t {X : List (Nat × List Value)} {d : Nat} {h : pm_H} (hd : 2 ≤ d) (I : pw_I h) (k : Int) (hk1 : (-2147483648) ≤ k) (hk2 : k ≤ 2147483647) (b : Int) (hb1 : (-2147483648) ≤ b) (hb2 : b ≤ 2147483647) (w : Int) (hw1 : (-2147483648) ≤ w) (hw2 : w ≤ 2147483647) (mx : Int) (hmx1 : (-2147483648) ≤ mx) (hmx2 : mx ≤ 2147483647) (z : Int) (hz1 : 0 ≤ z) (hz2 : z ≤ 1) : pw X d h 201 0 [some (.ref 141), some (pw_i k), some (pw_i b), some (pw_i w), some (pw_i mx), some (pw_i z)] [] (fun h' v => pw_I h' ∧ pw_E [125, 131, 132, 133, 134, 135] h h' ∧ ∃ a : Int, v = .inl (some (pw_i a)) ∧ 0 ≤ a ∧ a ≤ 1 ∧ (((a = 1 ∧ 0 ≤ k ∧ k ≤ 23 ∧ 0 ≤ b ∧ b ≤ 1 ∧ 0 ≤ w ∧ w ≤ 999 ∧ 0 ≤ mx ∧ mx ≤ 99) ∨ (a = 0 ∧ ¬ (0 ≤ k ∧ k ≤ 23 ∧ 0 ≤ b ∧ b ≤ 1 ∧ 0 ≤ w ∧ w ≤ 999 ∧ 0 ≤ mx ∧ mx ≤ 99))) ∧ (a = 1 → pw_g h' 131 k.toNat = 1 ∧ ∀ j : Nat, j ≠ k.toNat → pw_g h' 131 j = pw_g h 131 j) ∧ (a = 0 → ∀ j : Nat, pw_g h' 131 j = pw_g h 131 j))) := by
  have E : pm_ent 201 = some (6, 6, 12, 1, pmc_201) := rfl
  have E0 : pw_E [125, 131, 132, 133, 134, 135] h h := pw_E.rf _ _
  refine pw_ld E (pc' := 1) (st' := [.ref 141]) rfl (fun _ => rfl) ?_
  refine pw_ld E (pc' := 2) (st' := [pw_i 0, .ref 141]) rfl (fun _ => rfl) ?_
  refine pw_putI I E (c := 125) (k := 0) (pc' := 5) rfl rfl rfl rfl (by omega) (by omega) (by omega) (by omega) rfl rfl ?_
  intro h1I h1E
  generalize h1w : pw_w h 125 0 (pw_i 0) = h1 at h1I h1E ⊢
  have h1F := E0.tr (h1E.wk (W' := [125, 131, 132, 133, 134, 135]) (by first | rfl | simp))
  refine pw_ld E (pc' := 6) (st' := [pw_i k]) rfl (fun _ => rfl) ?_
  refine pw_ld E (pc' := 7) (st' := [pw_i 0, pw_i k]) rfl (fun _ => rfl) ?_
  refine pw_bip E (pc' := 9) rfl rfl (by decide) ?_
  refine pw_call (m' := 202) (As := [pw_i k, pw_i 0, pw_i 23]) (rest := []) (ls'' := [some (pw_i k), some (pw_i 0), some (pw_i 23)]) (Nat.le_trans (by decide) hd) E rfl (fun _ => pw_iS rfl rfl rfl) (rfl : pm_ent 202 = some (3, 3, 12, 1, pmc_202)) rfl rfl (cm_202 (pw_dp hd (by decide)) h1I (k) (by omega) (by omega) (0) (by omega) (by omega) (23) (by omega) (by omega)) ?_
  rintro u3 v2 ⟨rfl, x4, rfl, hx4a, hx4b, hx4r⟩
  refine ⟨_, rfl, ?_⟩
  show pw X d h1 201 12 [some (.ref 141), some (pw_i k), some (pw_i b), some (pw_i w), some (pw_i mx), some (pw_i z)] [pw_i x4] _
  change (x4 = 1 ∧ 0 ≤ k ∧ k ≤ 23) ∨ (x4 = 0 ∧ ¬ (0 ≤ k ∧ k ≤ 23)) at hx4r
  rcases (by omega : x4 = 1 ∨ x4 = 0) with hb5 | hb5
  · skip
    refine pw_if E (pc' := 46) rfl (by decide) (by omega) (by omega) ?_ ?_
    · intro hc6
      change x4 = (0 : Int) at hc6
      exfalso; omega
    · intro hc7
      change ¬ (x4 = (0 : Int)) at hc7
      refine pw_ld E (pc' := 16) (st' := [pw_i b]) rfl (fun _ => rfl) ?_
      refine pw_ld E (pc' := 17) (st' := [pw_i 0, pw_i b]) rfl (fun _ => rfl) ?_
      refine pw_ld E (pc' := 18) (st' := [pw_i 1, pw_i 0, pw_i b]) rfl (fun _ => rfl) ?_
      refine pw_call (m' := 202) (As := [pw_i b, pw_i 0, pw_i 1]) (rest := []) (ls'' := [some (pw_i b), some (pw_i 0), some (pw_i 1)]) (Nat.le_trans (by decide) hd) E rfl (fun _ => pw_iS rfl rfl rfl) (rfl : pm_ent 202 = some (3, 3, 12, 1, pmc_202)) rfl rfl (cm_202 (pw_dp hd (by decide)) h1I (b) (by omega) (by omega) (0) (by omega) (by omega) (1) (by omega) (by omega)) ?_
      rintro u9 v8 ⟨rfl, x10, rfl, hx10a, hx10b, hx10r⟩
      refine ⟨_, rfl, ?_⟩
      show pw X d h1 201 21 [some (.ref 141), some (pw_i k), some (pw_i b), some (pw_i w), some (pw_i mx), some (pw_i z)] [pw_i x10] _
      change (x10 = 1 ∧ 0 ≤ b ∧ b ≤ 1) ∨ (x10 = 0 ∧ ¬ (0 ≤ b ∧ b ≤ 1)) at hx10r
      rcases (by omega : x10 = 1 ∨ x10 = 0) with hb11 | hb11
      · skip
        refine pw_if E (pc' := 46) rfl (by decide) (by omega) (by omega) ?_ ?_
        · intro hc12
          change x10 = (0 : Int) at hc12
          exfalso; omega
        · intro hc13
          change ¬ (x10 = (0 : Int)) at hc13
          refine pw_ld E (pc' := 25) (st' := [pw_i w]) rfl (fun _ => rfl) ?_
          refine pw_ld E (pc' := 26) (st' := [pw_i 0, pw_i w]) rfl (fun _ => rfl) ?_
          refine pw_sip E (pc' := 29) rfl rfl (by decide) ?_
          refine pw_call (m' := 202) (As := [pw_i w, pw_i 0, pw_i 999]) (rest := []) (ls'' := [some (pw_i w), some (pw_i 0), some (pw_i 999)]) (Nat.le_trans (by decide) hd) E rfl (fun _ => pw_iS rfl rfl rfl) (rfl : pm_ent 202 = some (3, 3, 12, 1, pmc_202)) rfl rfl (cm_202 (pw_dp hd (by decide)) h1I (w) (by omega) (by omega) (0) (by omega) (by omega) (999) (by omega) (by omega)) ?_
          rintro u15 v14 ⟨rfl, x16, rfl, hx16a, hx16b, hx16r⟩
          refine ⟨_, rfl, ?_⟩
          show pw X d h1 201 32 [some (.ref 141), some (pw_i k), some (pw_i b), some (pw_i w), some (pw_i mx), some (pw_i z)] [pw_i x16] _
          change (x16 = 1 ∧ 0 ≤ w ∧ w ≤ 999) ∨ (x16 = 0 ∧ ¬ (0 ≤ w ∧ w ≤ 999)) at hx16r
          rcases (by omega : x16 = 1 ∨ x16 = 0) with hb17 | hb17
          · skip
            refine pw_if E (pc' := 46) rfl (by decide) (by omega) (by omega) ?_ ?_
            · intro hc18
              change x16 = (0 : Int) at hc18
              exfalso; omega
            · intro hc19
              change ¬ (x16 = (0 : Int)) at hc19
              refine pw_ld E (pc' := 37) (st' := [pw_i mx]) rfl (fun _ => rfl) ?_
              refine pw_ld E (pc' := 38) (st' := [pw_i 0, pw_i mx]) rfl (fun _ => rfl) ?_
              refine pw_bip E (pc' := 40) rfl rfl (by decide) ?_
              refine pw_call (m' := 202) (As := [pw_i mx, pw_i 0, pw_i 99]) (rest := []) (ls'' := [some (pw_i mx), some (pw_i 0), some (pw_i 99)]) (Nat.le_trans (by decide) hd) E rfl (fun _ => pw_iS rfl rfl rfl) (rfl : pm_ent 202 = some (3, 3, 12, 1, pmc_202)) rfl rfl (cm_202 (pw_dp hd (by decide)) h1I (mx) (by omega) (by omega) (0) (by omega) (by omega) (99) (by omega) (by omega)) ?_
              rintro u21 v20 ⟨rfl, x22, rfl, hx22a, hx22b, hx22r⟩
              refine ⟨_, rfl, ?_⟩
              show pw X d h1 201 43 [some (.ref 141), some (pw_i k), some (pw_i b), some (pw_i w), some (pw_i mx), some (pw_i z)] [pw_i x22] _
              change (x22 = 1 ∧ 0 ≤ mx ∧ mx ≤ 99) ∨ (x22 = 0 ∧ ¬ (0 ≤ mx ∧ mx ≤ 99)) at hx22r
              rcases (by omega : x22 = 1 ∨ x22 = 0) with hb23 | hb23
              · skip
                refine pw_if E (pc' := 48) rfl (by decide) (by omega) (by omega) ?_ ?_
                · intro hc24
                  change x22 ≠ (0 : Int) at hc24
                  refine pw_ld E (pc' := 49) (st' := [.ref 141]) rfl (fun _ => rfl) ?_
                  refine pw_getR (b := 147) h1I E (c := 125) (k := 10) (pc' := 52) rfl rfl rfl rfl rfl rfl rfl ?_
                  refine pw_ld E (pc' := 53) (st' := [pw_i k, .ref 147]) rfl (fun _ => rfl) ?_
                  refine pw_ld E (pc' := 54) (st' := [pw_i 1, pw_i k, .ref 147]) rfl (fun _ => rfl) ?_
                  refine pw_ast0 h1I E (c := 131) (pc' := 55) rfl rfl rfl (by decide) rfl (by decide) (by omega) (by omega) (pw_b1 (by omega) (by omega)) (by omega) (by omega) (by omega) (by omega) rfl ?_
                  intro h25I h25E
                  generalize h25w : pw_w h1 131 (k.toNat) (pw_i 1) = h25 at h25I h25E ⊢
                  have h25F := h1F.tr (h25E.wk (W' := [125, 131, 132, 133, 134, 135]) (by first | rfl | simp))
                  refine pw_ld E (pc' := 56) (st' := [.ref 141]) rfl (fun _ => rfl) ?_
                  refine pw_getR (b := 148) h25I E (c := 125) (k := 11) (pc' := 59) rfl rfl rfl rfl rfl rfl rfl ?_
                  refine pw_ld E (pc' := 60) (st' := [pw_i k, .ref 148]) rfl (fun _ => rfl) ?_
                  refine pw_ld E (pc' := 61) (st' := [pw_i b, pw_i k, .ref 148]) rfl (fun _ => rfl) ?_
                  refine pw_ast0 h25I E (c := 132) (pc' := 62) rfl rfl rfl (by decide) rfl (by decide) (by omega) (by omega) rfl (by omega) (by omega) (by omega) (by omega) rfl ?_
                  intro h26I h26E
                  generalize h26w : pw_w h25 132 (k.toNat) (pw_i b) = h26 at h26I h26E ⊢
                  have h26F := h25F.tr (h26E.wk (W' := [125, 131, 132, 133, 134, 135]) (by first | rfl | simp))
                  refine pw_ld E (pc' := 63) (st' := [.ref 141]) rfl (fun _ => rfl) ?_
                  refine pw_getR (b := 149) h26I E (c := 125) (k := 12) (pc' := 66) rfl rfl rfl rfl rfl rfl rfl ?_
                  refine pw_ld E (pc' := 67) (st' := [pw_i k, .ref 149]) rfl (fun _ => rfl) ?_
                  refine pw_ld E (pc' := 68) (st' := [pw_i w, pw_i k, .ref 149]) rfl (fun _ => rfl) ?_
                  refine pw_ast0 h26I E (c := 133) (pc' := 69) rfl rfl rfl (by decide) rfl (by decide) (by omega) (by omega) rfl (by omega) (by omega) (by omega) (by omega) rfl ?_
                  intro h27I h27E
                  generalize h27w : pw_w h26 133 (k.toNat) (pw_i w) = h27 at h27I h27E ⊢
                  have h27F := h26F.tr (h27E.wk (W' := [125, 131, 132, 133, 134, 135]) (by first | rfl | simp))
                  refine pw_ld E (pc' := 70) (st' := [.ref 141]) rfl (fun _ => rfl) ?_
                  refine pw_getR (b := 150) h27I E (c := 125) (k := 13) (pc' := 73) rfl rfl rfl rfl rfl rfl rfl ?_
                  refine pw_ld E (pc' := 74) (st' := [pw_i k, .ref 150]) rfl (fun _ => rfl) ?_
                  refine pw_ld E (pc' := 76) (st' := [pw_i mx, pw_i k, .ref 150]) rfl (fun _ => rfl) ?_
                  refine pw_ast0 h27I E (c := 134) (pc' := 77) rfl rfl rfl (by decide) rfl (by decide) (by omega) (by omega) rfl (by omega) (by omega) (by omega) (by omega) rfl ?_
                  intro h28I h28E
                  generalize h28w : pw_w h27 134 (k.toNat) (pw_i mx) = h28 at h28I h28E ⊢
                  have h28F := h27F.tr (h28E.wk (W' := [125, 131, 132, 133, 134, 135]) (by first | rfl | simp))
                  refine pw_ld E (pc' := 78) (st' := [.ref 141]) rfl (fun _ => rfl) ?_
                  refine pw_getR (b := 151) h28I E (c := 125) (k := 14) (pc' := 81) rfl rfl rfl rfl rfl rfl rfl ?_
                  refine pw_ld E (pc' := 82) (st' := [pw_i k, .ref 151]) rfl (fun _ => rfl) ?_
                  refine pw_ld E (pc' := 84) (st' := [pw_i z, pw_i k, .ref 151]) rfl (fun _ => rfl) ?_
                  refine pw_ast0 h28I E (c := 135) (pc' := 85) rfl rfl rfl (by decide) rfl (by decide) (by omega) (by omega) (pw_b1 (by omega) (by omega)) (by omega) (by omega) (by omega) (by omega) rfl ?_
                  intro h29I h29E
                  generalize h29w : pw_w h28 135 (k.toNat) (pw_i z) = h29 at h29I h29E ⊢
                  have h29F := h28F.tr (h29E.wk (W' := [125, 131, 132, 133, 134, 135]) (by first | rfl | simp))
                  refine pw_ld E (pc' := 86) (st' := [pw_i 1]) rfl (fun _ => rfl) ?_
                  refine pw_zret E rfl (by omega) ?_
                  have hl30 : ∀ j : Nat, pw_g h29 131 j = pw_g h25 131 j := fun j => ((((by rw [← h29w]; exact pw_g_ne (by omega) : pw_g h29 131 j = pw_g h28 131 j)).trans (by rw [← h28w]; exact pw_g_ne (by omega) : pw_g h28 131 j = pw_g h27 131 j)).trans (by rw [← h27w]; exact pw_g_ne (by omega) : pw_g h27 131 j = pw_g h26 131 j)).trans (by rw [← h26w]; exact pw_g_ne (by omega) : pw_g h26 131 j = pw_g h25 131 j)
                  have hl31 : ∀ j : Nat, pw_g h1 131 j = pw_g h 131 j := fun j => (by rw [← h1w]; exact pw_g_ne (by omega) : pw_g h1 131 j = pw_g h 131 j)
                  have hp1 : pw_g h25 131 (k.toNat) = 1 := by rw [← h25w]; exact pw_g_eqA h1I rfl (by omega) (by omega) (by omega)
                  have hp2 : ∀ j : Nat, j ≠ k.toNat → pw_g h25 131 j = pw_g h1 131 j := fun j hj => by rw [← h25w]; exact pw_g_ne (fun q => hj q.2.symm)
                  exact ⟨h29I, h29F, ⟨_, rfl, by omega, by omega, by omega, fun _ => ⟨(hl30 _).trans hp1, fun j hj => (hl30 j).trans ((hp2 j hj).trans (hl31 j))⟩, fun q => by omega⟩⟩
                · intro hc32
                  change ¬ (x22 ≠ (0 : Int)) at hc32
                  exfalso; omega
              · skip
                refine pw_if E (pc' := 48) rfl (by decide) (by omega) (by omega) ?_ ?_
                · intro hc34
                  change x22 ≠ (0 : Int) at hc34
                  exfalso; omega
                · intro hc35
                  change ¬ (x22 ≠ (0 : Int)) at hc35
                  refine pw_ld E (pc' := 47) (st' := [pw_i 0]) rfl (fun _ => rfl) ?_
                  refine pw_zret E rfl (by omega) ?_
                  have hl36 : ∀ j : Nat, pw_g h1 131 j = pw_g h 131 j := fun j => (by rw [← h1w]; exact pw_g_ne (by omega) : pw_g h1 131 j = pw_g h 131 j)
                  exact ⟨h1I, h1F, ⟨_, rfl, by omega, by omega, by omega, fun q => by omega, fun _ => hl36⟩⟩
          · skip
            refine pw_if E (pc' := 46) rfl (by decide) (by omega) (by omega) ?_ ?_
            · intro hc38
              change x16 = (0 : Int) at hc38
              refine pw_ld E (pc' := 47) (st' := [pw_i 0]) rfl (fun _ => rfl) ?_
              refine pw_zret E rfl (by omega) ?_
              have hl39 : ∀ j : Nat, pw_g h1 131 j = pw_g h 131 j := fun j => (by rw [← h1w]; exact pw_g_ne (by omega) : pw_g h1 131 j = pw_g h 131 j)
              exact ⟨h1I, h1F, ⟨_, rfl, by omega, by omega, by omega, fun q => by omega, fun _ => hl39⟩⟩
            · intro hc40
              change ¬ (x16 = (0 : Int)) at hc40
              exfalso; omega
      · skip
        refine pw_if E (pc' := 46) rfl (by decide) (by omega) (by omega) ?_ ?_
        · intro hc42
          change x10 = (0 : Int) at hc42
          refine pw_ld E (pc' := 47) (st' := [pw_i 0]) rfl (fun _ => rfl) ?_
          refine pw_zret E rfl (by omega) ?_
          have hl43 : ∀ j : Nat, pw_g h1 131 j = pw_g h 131 j := fun j => (by rw [← h1w]; exact pw_g_ne (by omega) : pw_g h1 131 j = pw_g h 131 j)
          exact ⟨h1I, h1F, ⟨_, rfl, by omega, by omega, by omega, fun q => by omega, fun _ => hl43⟩⟩
        · intro hc44
          change ¬ (x10 = (0 : Int)) at hc44
          exfalso; omega
  · skip
    refine pw_if E (pc' := 46) rfl (by decide) (by omega) (by omega) ?_ ?_
    · intro hc46
      change x4 = (0 : Int) at hc46
      refine pw_ld E (pc' := 47) (st' := [pw_i 0]) rfl (fun _ => rfl) ?_
      refine pw_zret E rfl (by omega) ?_
      have hl47 : ∀ j : Nat, pw_g h1 131 j = pw_g h 131 j := fun j => (by rw [← h1w]; exact pw_g_ne (by omega) : pw_g h1 131 j = pw_g h 131 j)
      exact ⟨h1I, h1F, ⟨_, rfl, by omega, by omega, by omega, fun q => by omega, fun _ => hl47⟩⟩
    · intro hc48
      change ¬ (x4 = (0 : Int)) at hc48
      exfalso; omega
set_option maxHeartbeats 4000000 in
theorem cm_124_t {X : List (Nat × List Value)} {d : Nat} {h : pm_H} (hd : 3 ≤ d) (I : pw_I h) (k : Int) (hk1 : (-2147483648) ≤ k) (hk2 : k ≤ 2147483647) : pw X d h 124 0 [some (.ref 16), some (pw_i k)] [] (fun h' v => h = h' ∧ ∃ a : Int, v = .inl (some (pw_i a)) ∧ 0 ≤ a ∧ a ≤ 1 ∧ ((a = 1 ∧ 0 ≤ k ∧ k ≤ 23 ∧ pw_g h 2 k.toNat = 1) ∨ (a = 0 ∧ ¬ (0 ≤ k ∧ k ≤ 23 ∧ pw_g h 2 k.toNat = 1)))) := by
  have E : pm_ent 124 = some (2, 2, 11, 1, pmc_124) := rfl
  refine pw_ld E (pc' := 1) (st' := [pw_i k]) rfl (fun _ => rfl) ?_
  refine pw_call (m' := 120) (As := [pw_i k]) (rest := []) (ls'' := [some (pw_i k)]) (Nat.le_trans (by decide) hd) E rfl (fun _ => pw_iS rfl rfl rfl) (rfl : pm_ent 120 = some (1, 1, 11, 1, pmc_120)) rfl rfl (cm_120 (pw_dp hd (by decide)) I (k) (by omega) (by omega)) ?_
  rintro u2 v1 ⟨rfl, x3, rfl, hx3a, hx3b, hx3r⟩
  refine ⟨_, rfl, ?_⟩
  show pw X d h 124 4 [some (.ref 16), some (pw_i k)] [pw_i x3] _
  change (x3 = 1 ∧ 0 ≤ k ∧ k ≤ 23) ∨ (x3 = 0 ∧ ¬ (0 ≤ k ∧ k ≤ 23)) at hx3r
  rcases (by omega : x3 = 1 ∨ x3 = 0) with hb4 | hb4
  · skip
    refine pw_if E (pc' := 22) rfl (by decide) (by omega) (by omega) ?_ ?_
    · intro hc5
      change x3 = (0 : Int) at hc5
      exfalso; omega
    · intro hc6
      change ¬ (x3 = (0 : Int)) at hc6
      refine pw_ld E (pc' := 8) (st' := [.ref 16]) rfl (fun _ => rfl) ?_
      refine pw_getR (b := 17) I E (c := 0) (k := 0) (pc' := 11) rfl rfl rfl rfl rfl rfl rfl ?_
      refine pw_ld E (pc' := 12) (st' := [pw_i k, .ref 17]) rfl (fun _ => rfl) ?_
      obtain ⟨f7l, f7h, -⟩ := pw_obj (c := 1) I rfl
      refine pw_call (m' := 59) (As := [.ref 17, pw_i k]) (rest := []) (ls'' := [some (.ref 17), some (pw_i k)]) (Nat.le_trans (by decide) hd) E rfl (fun _ => pw_iV rfl rfl rfl rfl (pw_cellI f7h rfl)) (rfl : pm_ent 59 = some (2, 2, 6, 1, pmc_59)) rfl rfl (cm_59 (pw_dp hd (by decide)) I (k) (by omega) (by omega)) ?_
      rintro u9 v8 ⟨rfl, x10, rfl, hx10a, hx10b, hx10r⟩
      refine ⟨_, rfl, ?_⟩
      show pw X d h 124 15 [some (.ref 16), some (pw_i k)] [pw_i x10] _
      change x10 = pw_g h 2 k.toNat at hx10r
      rcases (by omega : x10 = 1 ∨ x10 = 0) with hb11 | hb11
      · skip
        refine pw_if E (pc' := 22) rfl (by decide) (by omega) (by omega) ?_ ?_
        · intro hc12
          change x10 = (0 : Int) at hc12
          exfalso; omega
        · intro hc13
          change ¬ (x10 = (0 : Int)) at hc13
          refine pw_ld E (pc' := 19) (st' := [pw_i 1]) rfl (fun _ => rfl) ?_
          refine pw_goto E (pc' := 23) rfl (by decide) ?_
          refine pw_zret E rfl (by omega) ?_
          exact ⟨rfl, ⟨_, rfl, by omega, by omega, by omega⟩⟩
      · skip
        refine pw_if E (pc' := 22) rfl (by decide) (by omega) (by omega) ?_ ?_
        · intro hc15
          change x10 = (0 : Int) at hc15
          refine pw_ld E (pc' := 23) (st' := [pw_i 0]) rfl (fun _ => rfl) ?_
          refine pw_zret E rfl (by omega) ?_
          exact ⟨rfl, ⟨_, rfl, by omega, by omega, by omega⟩⟩
        · intro hc16
          change ¬ (x10 = (0 : Int)) at hc16
          exfalso; omega
  · skip
    refine pw_if E (pc' := 22) rfl (by decide) (by omega) (by omega) ?_ ?_
    · intro hc18
      change x3 = (0 : Int) at hc18
      refine pw_ld E (pc' := 23) (st' := [pw_i 0]) rfl (fun _ => rfl) ?_
      refine pw_zret E rfl (by omega) ?_
      exact ⟨rfl, ⟨_, rfl, by omega, by omega, by omega⟩⟩
    · intro hc19
      change ¬ (x3 = (0 : Int)) at hc19
      exfalso; omega
set_option maxHeartbeats 4000000 in
theorem cm_204_t {X : List (Nat × List Value)} {d : Nat} {h : pm_H} (hd : 2 ≤ d) (I : pw_I h) (k : Int) (hk1 : (-2147483648) ≤ k) (hk2 : k ≤ 2147483647) : pw X d h 204 0 [some (.ref 141), some (pw_i k)] [] (fun h' v => h = h' ∧ ∃ a : Int, v = .inl (some (pw_i a)) ∧ 0 ≤ a ∧ a ≤ 1 ∧ ((a = 1 ∧ 0 ≤ k ∧ k ≤ 23 ∧ pw_g h 131 k.toNat = 1) ∨ (a = 0 ∧ ¬ (0 ≤ k ∧ k ≤ 23 ∧ pw_g h 131 k.toNat = 1)))) := by
  have E : pm_ent 204 = some (2, 2, 12, 1, pmc_204) := rfl
  refine pw_ld E (pc' := 1) (st' := [pw_i k]) rfl (fun _ => rfl) ?_
  refine pw_ld E (pc' := 2) (st' := [pw_i 0, pw_i k]) rfl (fun _ => rfl) ?_
  refine pw_bip E (pc' := 4) rfl rfl (by decide) ?_
  refine pw_call (m' := 202) (As := [pw_i k, pw_i 0, pw_i 23]) (rest := []) (ls'' := [some (pw_i k), some (pw_i 0), some (pw_i 23)]) (Nat.le_trans (by decide) hd) E rfl (fun _ => pw_iS rfl rfl rfl) (rfl : pm_ent 202 = some (3, 3, 12, 1, pmc_202)) rfl rfl (cm_202 (pw_dp hd (by decide)) I (k) (by omega) (by omega) (0) (by omega) (by omega) (23) (by omega) (by omega)) ?_
  rintro u2 v1 ⟨rfl, x3, rfl, hx3a, hx3b, hx3r⟩
  refine ⟨_, rfl, ?_⟩
  show pw X d h 204 7 [some (.ref 141), some (pw_i k)] [pw_i x3] _
  change (x3 = 1 ∧ 0 ≤ k ∧ k ≤ 23) ∨ (x3 = 0 ∧ ¬ (0 ≤ k ∧ k ≤ 23)) at hx3r
  rcases (by omega : x3 = 1 ∨ x3 = 0) with hb4 | hb4
  · skip
    refine pw_if E (pc' := 23) rfl (by decide) (by omega) (by omega) ?_ ?_
    · intro hc5
      change x3 = (0 : Int) at hc5
      exfalso; omega
    · intro hc6
      change ¬ (x3 = (0 : Int)) at hc6
      refine pw_ld E (pc' := 11) (st' := [.ref 141]) rfl (fun _ => rfl) ?_
      refine pw_getR (b := 147) I E (c := 125) (k := 10) (pc' := 14) rfl rfl rfl rfl rfl rfl rfl ?_
      refine pw_ld E (pc' := 15) (st' := [pw_i k, .ref 147]) rfl (fun _ => rfl) ?_
      refine pw_ald2 I E (c := 131) (pc' := 16) rfl rfl rfl (by decide) rfl (by decide) (by omega) (by omega) rfl (fun hf7a hf7b => ?_)
      refine pw_if E (pc' := 23) rfl (by decide) (by omega) (by omega) ?_ ?_
      · intro hc8
        change pw_g h 131 (k.toNat) = (0 : Int) at hc8
        refine pw_ld E (pc' := 24) (st' := [pw_i 0]) rfl (fun _ => rfl) ?_
        refine pw_zret E rfl (by omega) ?_
        exact ⟨rfl, ⟨_, rfl, by omega, by omega, by omega⟩⟩
      · intro hc9
        change ¬ (pw_g h 131 (k.toNat) = (0 : Int)) at hc9
        refine pw_ld E (pc' := 20) (st' := [pw_i 1]) rfl (fun _ => rfl) ?_
        refine pw_goto E (pc' := 24) rfl (by decide) ?_
        refine pw_zret E rfl (by omega) ?_
        exact ⟨rfl, ⟨_, rfl, by omega, by omega, by omega⟩⟩
  · skip
    refine pw_if E (pc' := 23) rfl (by decide) (by omega) (by omega) ?_ ?_
    · intro hc11
      change x3 = (0 : Int) at hc11
      refine pw_ld E (pc' := 24) (st' := [pw_i 0]) rfl (fun _ => rfl) ?_
      refine pw_zret E rfl (by omega) ?_
      exact ⟨rfl, ⟨_, rfl, by omega, by omega, by omega⟩⟩
    · intro hc12
      change ¬ (x3 = (0 : Int)) at hc12
      exfalso; omega
set_option maxHeartbeats 4000000 in
theorem cm_160_t {X : List (Nat × List Value)} {d : Nat} {h : pm_H} (hd : 4 ≤ d) (I : pw_I h) (k : Int) (hk1 : (-2147483648) ≤ k) (hk2 : k ≤ 2147483647) (mo : Int) (hmo1 : (-2147483648) ≤ mo) (hmo2 : mo ≤ 2147483647) (hr : Int) (hhr1 : (-2147483648) ≤ hr) (hhr2 : hr ≤ 2147483647) (tk : Int) (htk1 : (-2147483648) ≤ tk) (htk2 : tk ≤ 2147483647) : pw X d h 160 0 [some (.ref 16), some (pw_i k), some (pw_i mo), some (pw_i hr), some (pw_i tk)] [] (fun h' v => pw_I h' ∧ pw_E [14, 15] h h' ∧ ∃ a : Int, v = .inl (some (pw_i a)) ∧ 0 ≤ a ∧ a ≤ 1 ∧ ((a = 1 ∧ 0 ≤ k ∧ k ≤ 23 ∧ pw_g h 2 k.toNat = 1 ∧ 0 ≤ mo ∧ mo ≤ 11 ∧ 0 ≤ hr ∧ hr ≤ 999 ∧ 0 ≤ tk ∧ tk ≤ 99999) ∨ (a = 0 ∧ ¬ (0 ≤ k ∧ k ≤ 23 ∧ pw_g h 2 k.toNat = 1 ∧ 0 ≤ mo ∧ mo ≤ 11 ∧ 0 ≤ hr ∧ hr ≤ 999 ∧ 0 ≤ tk ∧ tk ≤ 99999)))) := by
  have E : pm_ent 160 = some (5, 5, 11, 1, pmc_160) := rfl
  have E0 : pw_E [14, 15] h h := pw_E.rf _ _
  refine pw_ld E (pc' := 1) (st' := [.ref 16]) rfl (fun _ => rfl) ?_
  refine pw_ld E (pc' := 2) (st' := [pw_i k, .ref 16]) rfl (fun _ => rfl) ?_
  obtain ⟨f1l, f1h, -⟩ := pw_obj (c := 0) I rfl
  refine pw_call (m' := 124) (As := [.ref 16, pw_i k]) (rest := []) (ls'' := [some (.ref 16), some (pw_i k)]) (Nat.le_trans (by decide) hd) E rfl (fun _ => pw_iV rfl rfl rfl rfl (pw_cellI f1h rfl)) (rfl : pm_ent 124 = some (2, 2, 11, 1, pmc_124)) rfl rfl (cm_124_t (pw_dp hd (by decide)) I (k) (by omega) (by omega)) ?_
  rintro u3 v2 ⟨rfl, x4, rfl, hx4a, hx4b, hx4r⟩
  refine ⟨_, rfl, ?_⟩
  show pw X d h 160 5 [some (.ref 16), some (pw_i k), some (pw_i mo), some (pw_i hr), some (pw_i tk)] [pw_i x4] _
  change (x4 = 1 ∧ 0 ≤ k ∧ k ≤ 23 ∧ pw_g h 2 k.toNat = 1) ∨ (x4 = 0 ∧ ¬ (0 ≤ k ∧ k ≤ 23 ∧ pw_g h 2 k.toNat = 1)) at hx4r
  rcases (by omega : x4 = 1 ∨ x4 = 0) with hb5 | hb5
  · skip
    refine pw_if E (pc' := 38) rfl (by decide) (by omega) (by omega) ?_ ?_
    · intro hc6
      change x4 = (0 : Int) at hc6
      exfalso; omega
    · intro hc7
      change ¬ (x4 = (0 : Int)) at hc7
      refine pw_ld E (pc' := 9) (st' := [pw_i mo]) rfl (fun _ => rfl) ?_
      refine pw_call (m' := 125) (As := [pw_i mo]) (rest := []) (ls'' := [some (pw_i mo)]) (Nat.le_trans (by decide) hd) E rfl (fun _ => pw_iS rfl rfl rfl) (rfl : pm_ent 125 = some (1, 1, 11, 1, pmc_125)) rfl rfl (cm_125 (pw_dp hd (by decide)) I (mo) (by omega) (by omega)) ?_
      rintro u9 v8 ⟨rfl, x10, rfl, hx10a, hx10b, hx10r⟩
      refine ⟨_, rfl, ?_⟩
      show pw X d h 160 12 [some (.ref 16), some (pw_i k), some (pw_i mo), some (pw_i hr), some (pw_i tk)] [pw_i x10] _
      change (x10 = 1 ∧ 0 ≤ mo ∧ mo ≤ 11) ∨ (x10 = 0 ∧ ¬ (0 ≤ mo ∧ mo ≤ 11)) at hx10r
      rcases (by omega : x10 = 1 ∨ x10 = 0) with hb11 | hb11
      · skip
        refine pw_if E (pc' := 38) rfl (by decide) (by omega) (by omega) ?_ ?_
        · intro hc12
          change x10 = (0 : Int) at hc12
          exfalso; omega
        · intro hc13
          change ¬ (x10 = (0 : Int)) at hc13
          refine pw_ld E (pc' := 16) (st' := [pw_i hr]) rfl (fun _ => rfl) ?_
          refine pw_ld E (pc' := 17) (st' := [pw_i 0, pw_i hr]) rfl (fun _ => rfl) ?_
          refine pw_sip E (pc' := 20) rfl rfl (by decide) ?_
          refine pw_call (m' := 121) (As := [pw_i hr, pw_i 0, pw_i 999]) (rest := []) (ls'' := [some (pw_i hr), some (pw_i 0), some (pw_i 999)]) (Nat.le_trans (by decide) hd) E rfl (fun _ => pw_iS rfl rfl rfl) (rfl : pm_ent 121 = some (3, 3, 11, 1, pmc_121)) rfl rfl (cm_121 (pw_dp hd (by decide)) I (hr) (by omega) (by omega) (0) (by omega) (by omega) (999) (by omega) (by omega)) ?_
          rintro u15 v14 ⟨rfl, x16, rfl, hx16a, hx16b, hx16r⟩
          refine ⟨_, rfl, ?_⟩
          show pw X d h 160 23 [some (.ref 16), some (pw_i k), some (pw_i mo), some (pw_i hr), some (pw_i tk)] [pw_i x16] _
          change (x16 = 1 ∧ 0 ≤ hr ∧ hr ≤ 999) ∨ (x16 = 0 ∧ ¬ (0 ≤ hr ∧ hr ≤ 999)) at hx16r
          rcases (by omega : x16 = 1 ∨ x16 = 0) with hb17 | hb17
          · skip
            refine pw_if E (pc' := 38) rfl (by decide) (by omega) (by omega) ?_ ?_
            · intro hc18
              change x16 = (0 : Int) at hc18
              exfalso; omega
            · intro hc19
              change ¬ (x16 = (0 : Int)) at hc19
              refine pw_ld E (pc' := 28) (st' := [pw_i tk]) rfl (fun _ => rfl) ?_
              refine pw_ld E (pc' := 29) (st' := [pw_i 0, pw_i tk]) rfl (fun _ => rfl) ?_
              refine pw_ldcw (a := 99999) E (pc' := 32) rfl rfl rfl (by decide) ?_
              refine pw_call (m' := 121) (As := [pw_i tk, pw_i 0, pw_i 99999]) (rest := []) (ls'' := [some (pw_i tk), some (pw_i 0), some (pw_i 99999)]) (Nat.le_trans (by decide) hd) E rfl (fun _ => pw_iS rfl rfl rfl) (rfl : pm_ent 121 = some (3, 3, 11, 1, pmc_121)) rfl rfl (cm_121 (pw_dp hd (by decide)) I (tk) (by omega) (by omega) (0) (by omega) (by omega) (99999) (by omega) (by omega)) ?_
              rintro u21 v20 ⟨rfl, x22, rfl, hx22a, hx22b, hx22r⟩
              refine ⟨_, rfl, ?_⟩
              show pw X d h 160 35 [some (.ref 16), some (pw_i k), some (pw_i mo), some (pw_i hr), some (pw_i tk)] [pw_i x22] _
              change (x22 = 1 ∧ 0 ≤ tk ∧ tk ≤ 99999) ∨ (x22 = 0 ∧ ¬ (0 ≤ tk ∧ tk ≤ 99999)) at hx22r
              rcases (by omega : x22 = 1 ∨ x22 = 0) with hb23 | hb23
              · skip
                refine pw_if E (pc' := 40) rfl (by decide) (by omega) (by omega) ?_ ?_
                · intro hc24
                  change x22 ≠ (0 : Int) at hc24
                  refine pw_ld E (pc' := 41) (st' := [.ref 16]) rfl (fun _ => rfl) ?_
                  refine pw_getR (b := 30) I E (c := 0) (k := 4) (pc' := 44) rfl rfl rfl rfl rfl rfl rfl ?_
                  refine pw_ld E (pc' := 45) (st' := [pw_i k, .ref 30]) rfl (fun _ => rfl) ?_
                  refine pw_bip E (pc' := 47) rfl rfl (by decide) ?_
                  refine pw_mul E (pc' := 48) rfl rfl ?_
                  refine pw_ld E (pc' := 49) (st' := [pw_i mo, pw_i (k * 12), .ref 30]) rfl (fun _ => rfl) ?_
                  refine pw_add E (pc' := 50) rfl rfl ?_
                  refine pw_ld E (pc' := 51) (st' := [pw_i hr, pw_i ((k * 12) + mo), .ref 30]) rfl (fun _ => rfl) ?_
                  refine pw_ast0 I E (c := 14) (pc' := 52) rfl rfl rfl (by decide) rfl (by decide) (by omega) (by omega) rfl (by omega) (by omega) (by omega) (by omega) rfl ?_
                  intro h25I h25E
                  generalize h25w : pw_w h 14 (((k * 12) + mo).toNat) (pw_i hr) = h25 at h25I h25E ⊢
                  have h25F := E0.tr (h25E.wk (W' := [14, 15]) (by first | rfl | simp))
                  refine pw_ld E (pc' := 53) (st' := [.ref 16]) rfl (fun _ => rfl) ?_
                  refine pw_getR (b := 31) h25I E (c := 0) (k := 5) (pc' := 56) rfl rfl rfl rfl rfl rfl rfl ?_
                  refine pw_ld E (pc' := 57) (st' := [pw_i k, .ref 31]) rfl (fun _ => rfl) ?_
                  refine pw_bip E (pc' := 59) rfl rfl (by decide) ?_
                  refine pw_mul E (pc' := 60) rfl rfl ?_
                  refine pw_ld E (pc' := 61) (st' := [pw_i mo, pw_i (k * 12), .ref 31]) rfl (fun _ => rfl) ?_
                  refine pw_add E (pc' := 62) rfl rfl ?_
                  refine pw_ld E (pc' := 64) (st' := [pw_i tk, pw_i ((k * 12) + mo), .ref 31]) rfl (fun _ => rfl) ?_
                  refine pw_ast0 h25I E (c := 15) (pc' := 65) rfl rfl rfl (by decide) rfl (by decide) (by omega) (by omega) rfl (by omega) (by omega) (by omega) (by omega) rfl ?_
                  intro h26I h26E
                  generalize h26w : pw_w h25 15 (((k * 12) + mo).toNat) (pw_i tk) = h26 at h26I h26E ⊢
                  have h26F := h25F.tr (h26E.wk (W' := [14, 15]) (by first | rfl | simp))
                  refine pw_ld E (pc' := 66) (st' := [pw_i 1]) rfl (fun _ => rfl) ?_
                  refine pw_zret E rfl (by omega) ?_
                  exact ⟨h26I, h26F, ⟨_, rfl, by omega, by omega, by omega⟩⟩
                · intro hc27
                  change ¬ (x22 ≠ (0 : Int)) at hc27
                  exfalso; omega
              · skip
                refine pw_if E (pc' := 40) rfl (by decide) (by omega) (by omega) ?_ ?_
                · intro hc29
                  change x22 ≠ (0 : Int) at hc29
                  exfalso; omega
                · intro hc30
                  change ¬ (x22 ≠ (0 : Int)) at hc30
                  refine pw_ld E (pc' := 39) (st' := [pw_i 0]) rfl (fun _ => rfl) ?_
                  refine pw_zret E rfl (by omega) ?_
                  exact ⟨I, E0, ⟨_, rfl, by omega, by omega, by omega⟩⟩
          · skip
            refine pw_if E (pc' := 38) rfl (by decide) (by omega) (by omega) ?_ ?_
            · intro hc32
              change x16 = (0 : Int) at hc32
              refine pw_ld E (pc' := 39) (st' := [pw_i 0]) rfl (fun _ => rfl) ?_
              refine pw_zret E rfl (by omega) ?_
              exact ⟨I, E0, ⟨_, rfl, by omega, by omega, by omega⟩⟩
            · intro hc33
              change ¬ (x16 = (0 : Int)) at hc33
              exfalso; omega
      · skip
        refine pw_if E (pc' := 38) rfl (by decide) (by omega) (by omega) ?_ ?_
        · intro hc35
          change x10 = (0 : Int) at hc35
          refine pw_ld E (pc' := 39) (st' := [pw_i 0]) rfl (fun _ => rfl) ?_
          refine pw_zret E rfl (by omega) ?_
          exact ⟨I, E0, ⟨_, rfl, by omega, by omega, by omega⟩⟩
        · intro hc36
          change ¬ (x10 = (0 : Int)) at hc36
          exfalso; omega
  · skip
    refine pw_if E (pc' := 38) rfl (by decide) (by omega) (by omega) ?_ ?_
    · intro hc38
      change x4 = (0 : Int) at hc38
      refine pw_ld E (pc' := 39) (st' := [pw_i 0]) rfl (fun _ => rfl) ?_
      refine pw_zret E rfl (by omega) ?_
      exact ⟨I, E0, ⟨_, rfl, by omega, by omega, by omega⟩⟩
    · intro hc39
      change ¬ (x4 = (0 : Int)) at hc39
      exfalso; omega
set_option maxHeartbeats 4000000 in
theorem cm_287_t {X : List (Nat × List Value)} {d : Nat} {h : pm_H} (hd : 3 ≤ d) (I : pw_I h) (k : Int) (hk1 : (-2147483648) ≤ k) (hk2 : k ≤ 2147483647) (mo : Int) (hmo1 : (-2147483648) ≤ mo) (hmo2 : mo ≤ 2147483647) (hr : Int) (hhr1 : (-2147483648) ≤ hr) (hhr2 : hr ≤ 2147483647) (tk : Int) (htk1 : (-2147483648) ≤ tk) (htk2 : tk ≤ 2147483647) : pw X d h 287 0 [some (.ref 141), some (pw_i k), some (pw_i mo), some (pw_i hr), some (pw_i tk)] [] (fun h' v => pw_I h' ∧ pw_E [125, 162, 163] h h' ∧ ∃ a : Int, v = .inl (some (pw_i a)) ∧ 0 ≤ a ∧ a ≤ 1 ∧ ((a = 1 ∧ 0 ≤ k ∧ k ≤ 23 ∧ pw_g h 131 k.toNat = 1 ∧ 0 ≤ mo ∧ mo ≤ 11 ∧ 0 ≤ hr ∧ hr ≤ 999 ∧ 0 ≤ tk ∧ tk ≤ 99999) ∨ (a = 0 ∧ ¬ (0 ≤ k ∧ k ≤ 23 ∧ pw_g h 131 k.toNat = 1 ∧ 0 ≤ mo ∧ mo ≤ 11 ∧ 0 ≤ hr ∧ hr ≤ 999 ∧ 0 ≤ tk ∧ tk ≤ 99999)))) := by
  have E : pm_ent 287 = some (5, 5, 12, 1, pmc_287) := rfl
  have E0 : pw_E [125, 162, 163] h h := pw_E.rf _ _
  refine pw_ld E (pc' := 1) (st' := [.ref 141]) rfl (fun _ => rfl) ?_
  refine pw_ld E (pc' := 2) (st' := [pw_i 0, .ref 141]) rfl (fun _ => rfl) ?_
  refine pw_putI I E (c := 125) (k := 0) (pc' := 5) rfl rfl rfl rfl (by omega) (by omega) (by omega) (by omega) rfl rfl ?_
  intro h1I h1E
  generalize h1w : pw_w h 125 0 (pw_i 0) = h1 at h1I h1E ⊢
  have h1F := E0.tr (h1E.wk (W' := [125, 162, 163]) (by first | rfl | simp))
  have ht1 : pw_g h1 131 k.toNat = pw_g h 131 k.toNat := by rw [← h1w]; exact pw_g_ne (by omega)
  refine pw_ld E (pc' := 6) (st' := [.ref 141]) rfl (fun _ => rfl) ?_
  refine pw_ld E (pc' := 7) (st' := [pw_i k, .ref 141]) rfl (fun _ => rfl) ?_
  obtain ⟨f2l, f2h, -⟩ := pw_obj (c := 125) h1I rfl
  refine pw_call (m' := 204) (As := [.ref 141, pw_i k]) (rest := []) (ls'' := [some (.ref 141), some (pw_i k)]) (Nat.le_trans (by decide) hd) E rfl (fun _ => pw_iV rfl rfl rfl rfl (pw_cellI f2h rfl)) (rfl : pm_ent 204 = some (2, 2, 12, 1, pmc_204)) rfl rfl (cm_204_t (pw_dp hd (by decide)) h1I (k) (by omega) (by omega)) ?_
  rintro u4 v3 ⟨rfl, x5, rfl, hx5a, hx5b, hx5r⟩
  refine ⟨_, rfl, ?_⟩
  show pw X d h1 287 10 [some (.ref 141), some (pw_i k), some (pw_i mo), some (pw_i hr), some (pw_i tk)] [pw_i x5] _
  change (x5 = 1 ∧ 0 ≤ k ∧ k ≤ 23 ∧ pw_g h1 131 k.toNat = 1) ∨ (x5 = 0 ∧ ¬ (0 ≤ k ∧ k ≤ 23 ∧ pw_g h1 131 k.toNat = 1)) at hx5r
  rcases (by omega : x5 = 1 ∨ x5 = 0) with hb6 | hb6
  · skip
    refine pw_if E (pc' := 43) rfl (by decide) (by omega) (by omega) ?_ ?_
    · intro hc7
      change x5 = (0 : Int) at hc7
      exfalso; omega
    · intro hc8
      change ¬ (x5 = (0 : Int)) at hc8
      refine pw_ld E (pc' := 14) (st' := [pw_i mo]) rfl (fun _ => rfl) ?_
      refine pw_call (m' := 205) (As := [pw_i mo]) (rest := []) (ls'' := [some (pw_i mo)]) (Nat.le_trans (by decide) hd) E rfl (fun _ => pw_iS rfl rfl rfl) (rfl : pm_ent 205 = some (1, 1, 12, 1, pmc_205)) rfl rfl (cm_205 (pw_dp hd (by decide)) h1I (mo) (by omega) (by omega)) ?_
      rintro u10 v9 ⟨rfl, x11, rfl, hx11a, hx11b, hx11r⟩
      refine ⟨_, rfl, ?_⟩
      show pw X d h1 287 17 [some (.ref 141), some (pw_i k), some (pw_i mo), some (pw_i hr), some (pw_i tk)] [pw_i x11] _
      change (x11 = 1 ∧ 0 ≤ mo ∧ mo ≤ 11) ∨ (x11 = 0 ∧ ¬ (0 ≤ mo ∧ mo ≤ 11)) at hx11r
      rcases (by omega : x11 = 1 ∨ x11 = 0) with hb12 | hb12
      · skip
        refine pw_if E (pc' := 43) rfl (by decide) (by omega) (by omega) ?_ ?_
        · intro hc13
          change x11 = (0 : Int) at hc13
          exfalso; omega
        · intro hc14
          change ¬ (x11 = (0 : Int)) at hc14
          refine pw_ld E (pc' := 21) (st' := [pw_i hr]) rfl (fun _ => rfl) ?_
          refine pw_ld E (pc' := 22) (st' := [pw_i 0, pw_i hr]) rfl (fun _ => rfl) ?_
          refine pw_sip E (pc' := 25) rfl rfl (by decide) ?_
          refine pw_call (m' := 202) (As := [pw_i hr, pw_i 0, pw_i 999]) (rest := []) (ls'' := [some (pw_i hr), some (pw_i 0), some (pw_i 999)]) (Nat.le_trans (by decide) hd) E rfl (fun _ => pw_iS rfl rfl rfl) (rfl : pm_ent 202 = some (3, 3, 12, 1, pmc_202)) rfl rfl (cm_202 (pw_dp hd (by decide)) h1I (hr) (by omega) (by omega) (0) (by omega) (by omega) (999) (by omega) (by omega)) ?_
          rintro u16 v15 ⟨rfl, x17, rfl, hx17a, hx17b, hx17r⟩
          refine ⟨_, rfl, ?_⟩
          show pw X d h1 287 28 [some (.ref 141), some (pw_i k), some (pw_i mo), some (pw_i hr), some (pw_i tk)] [pw_i x17] _
          change (x17 = 1 ∧ 0 ≤ hr ∧ hr ≤ 999) ∨ (x17 = 0 ∧ ¬ (0 ≤ hr ∧ hr ≤ 999)) at hx17r
          rcases (by omega : x17 = 1 ∨ x17 = 0) with hb18 | hb18
          · skip
            refine pw_if E (pc' := 43) rfl (by decide) (by omega) (by omega) ?_ ?_
            · intro hc19
              change x17 = (0 : Int) at hc19
              exfalso; omega
            · intro hc20
              change ¬ (x17 = (0 : Int)) at hc20
              refine pw_ld E (pc' := 33) (st' := [pw_i tk]) rfl (fun _ => rfl) ?_
              refine pw_ld E (pc' := 34) (st' := [pw_i 0, pw_i tk]) rfl (fun _ => rfl) ?_
              refine pw_ldcw (a := 99999) E (pc' := 37) rfl rfl rfl (by decide) ?_
              refine pw_call (m' := 202) (As := [pw_i tk, pw_i 0, pw_i 99999]) (rest := []) (ls'' := [some (pw_i tk), some (pw_i 0), some (pw_i 99999)]) (Nat.le_trans (by decide) hd) E rfl (fun _ => pw_iS rfl rfl rfl) (rfl : pm_ent 202 = some (3, 3, 12, 1, pmc_202)) rfl rfl (cm_202 (pw_dp hd (by decide)) h1I (tk) (by omega) (by omega) (0) (by omega) (by omega) (99999) (by omega) (by omega)) ?_
              rintro u22 v21 ⟨rfl, x23, rfl, hx23a, hx23b, hx23r⟩
              refine ⟨_, rfl, ?_⟩
              show pw X d h1 287 40 [some (.ref 141), some (pw_i k), some (pw_i mo), some (pw_i hr), some (pw_i tk)] [pw_i x23] _
              change (x23 = 1 ∧ 0 ≤ tk ∧ tk ≤ 99999) ∨ (x23 = 0 ∧ ¬ (0 ≤ tk ∧ tk ≤ 99999)) at hx23r
              rcases (by omega : x23 = 1 ∨ x23 = 0) with hb24 | hb24
              · skip
                refine pw_if E (pc' := 45) rfl (by decide) (by omega) (by omega) ?_ ?_
                · intro hc25
                  change x23 ≠ (0 : Int) at hc25
                  refine pw_ld E (pc' := 46) (st' := [.ref 141]) rfl (fun _ => rfl) ?_
                  refine pw_getR (b := 178) h1I E (c := 125) (k := 51) (pc' := 49) rfl rfl rfl rfl rfl rfl rfl ?_
                  refine pw_bip E (pc' := 51) rfl rfl (by decide) ?_
                  refine pw_ld E (pc' := 52) (st' := [pw_i k, pw_i 12, .ref 178]) rfl (fun _ => rfl) ?_
                  refine pw_mul E (pc' := 53) rfl rfl ?_
                  refine pw_ld E (pc' := 54) (st' := [pw_i mo, pw_i (12 * k), .ref 178]) rfl (fun _ => rfl) ?_
                  refine pw_add E (pc' := 55) rfl rfl ?_
                  refine pw_ld E (pc' := 56) (st' := [pw_i hr, pw_i ((12 * k) + mo), .ref 178]) rfl (fun _ => rfl) ?_
                  refine pw_ast0 h1I E (c := 162) (pc' := 57) rfl rfl rfl (by decide) rfl (by decide) (by omega) (by omega) rfl (by omega) (by omega) (by omega) (by omega) rfl ?_
                  intro h26I h26E
                  generalize h26w : pw_w h1 162 (((12 * k) + mo).toNat) (pw_i hr) = h26 at h26I h26E ⊢
                  have h26F := h1F.tr (h26E.wk (W' := [125, 162, 163]) (by first | rfl | simp))
                  refine pw_ld E (pc' := 58) (st' := [.ref 141]) rfl (fun _ => rfl) ?_
                  refine pw_getR (b := 179) h26I E (c := 125) (k := 52) (pc' := 61) rfl rfl rfl rfl rfl rfl rfl ?_
                  refine pw_bip E (pc' := 63) rfl rfl (by decide) ?_
                  refine pw_ld E (pc' := 64) (st' := [pw_i k, pw_i 12, .ref 179]) rfl (fun _ => rfl) ?_
                  refine pw_mul E (pc' := 65) rfl rfl ?_
                  refine pw_ld E (pc' := 66) (st' := [pw_i mo, pw_i (12 * k), .ref 179]) rfl (fun _ => rfl) ?_
                  refine pw_add E (pc' := 67) rfl rfl ?_
                  refine pw_ld E (pc' := 69) (st' := [pw_i tk, pw_i ((12 * k) + mo), .ref 179]) rfl (fun _ => rfl) ?_
                  refine pw_ast0 h26I E (c := 163) (pc' := 70) rfl rfl rfl (by decide) rfl (by decide) (by omega) (by omega) rfl (by omega) (by omega) (by omega) (by omega) rfl ?_
                  intro h27I h27E
                  generalize h27w : pw_w h26 163 (((12 * k) + mo).toNat) (pw_i tk) = h27 at h27I h27E ⊢
                  have h27F := h26F.tr (h27E.wk (W' := [125, 162, 163]) (by first | rfl | simp))
                  refine pw_ld E (pc' := 71) (st' := [pw_i 1]) rfl (fun _ => rfl) ?_
                  refine pw_zret E rfl (by omega) ?_
                  exact ⟨h27I, h27F, ⟨_, rfl, by omega, by omega, by omega⟩⟩
                · intro hc28
                  change ¬ (x23 ≠ (0 : Int)) at hc28
                  exfalso; omega
              · skip
                refine pw_if E (pc' := 45) rfl (by decide) (by omega) (by omega) ?_ ?_
                · intro hc30
                  change x23 ≠ (0 : Int) at hc30
                  exfalso; omega
                · intro hc31
                  change ¬ (x23 ≠ (0 : Int)) at hc31
                  refine pw_ld E (pc' := 44) (st' := [pw_i 0]) rfl (fun _ => rfl) ?_
                  refine pw_zret E rfl (by omega) ?_
                  exact ⟨h1I, h1F, ⟨_, rfl, by omega, by omega, by omega⟩⟩
          · skip
            refine pw_if E (pc' := 43) rfl (by decide) (by omega) (by omega) ?_ ?_
            · intro hc33
              change x17 = (0 : Int) at hc33
              refine pw_ld E (pc' := 44) (st' := [pw_i 0]) rfl (fun _ => rfl) ?_
              refine pw_zret E rfl (by omega) ?_
              exact ⟨h1I, h1F, ⟨_, rfl, by omega, by omega, by omega⟩⟩
            · intro hc34
              change ¬ (x17 = (0 : Int)) at hc34
              exfalso; omega
      · skip
        refine pw_if E (pc' := 43) rfl (by decide) (by omega) (by omega) ?_ ?_
        · intro hc36
          change x11 = (0 : Int) at hc36
          refine pw_ld E (pc' := 44) (st' := [pw_i 0]) rfl (fun _ => rfl) ?_
          refine pw_zret E rfl (by omega) ?_
          exact ⟨h1I, h1F, ⟨_, rfl, by omega, by omega, by omega⟩⟩
        · intro hc37
          change ¬ (x11 = (0 : Int)) at hc37
          exfalso; omega
  · skip
    refine pw_if E (pc' := 43) rfl (by decide) (by omega) (by omega) ?_ ?_
    · intro hc39
      change x5 = (0 : Int) at hc39
      refine pw_ld E (pc' := 44) (st' := [pw_i 0]) rfl (fun _ => rfl) ?_
      refine pw_zret E rfl (by omega) ?_
      exact ⟨h1I, h1F, ⟨_, rfl, by omega, by omega, by omega⟩⟩
    · intro hc40
      change ¬ (x5 = (0 : Int)) at hc40
      exfalso; omega
end
