/-! other and mark, exactly (printed by wip/tool/mmark.py) -/
/-- what mark does to the number of other rivers and to what the marks hold -/
def pw_MT (c c' : Int) (o l o' l' : Nat → Int) (mk b a : Int) : Prop :=
  (¬ (0 ≤ mk ∧ mk ≤ 3) ∧ a = 0 ∧ c' = c ∧ ∀ i : Nat, i < 4 → o' i = o i ∧ l' i = l i) ∨
  (0 ≤ mk ∧ mk ≤ 3 ∧ b = 0 ∧ a = 1 ∧ c' = c ∧ o' mk.toNat = c ∧ l' mk.toNat = 1 ∧ ∀ i : Nat, i < 4 → i ≠ mk.toNat → o' i = o i ∧ l' i = l i) ∨
  (0 ≤ mk ∧ mk ≤ 3 ∧ b = 1 ∧ (l mk.toNat = 0 ∨ c < o mk.toNat) ∧ a = 0 ∧ c' = c ∧ ∀ i : Nat, i < 4 → o' i = o i ∧ l' i = l i) ∨
  (0 ≤ mk ∧ mk ≤ 3 ∧ b = 1 ∧ l mk.toNat ≠ 0 ∧ o mk.toNat ≤ c ∧ a = 1 ∧ c' = o mk.toNat ∧ ∀ i : Nat, i < 4 → o' i = o i ∧ l' i = l i)
def pw_om (h : pm_H) (i : Nat) : Int := pw_g h (105 + 5 * i) 2
def pw_lm (h : pm_H) (i : Nat) : Int := pw_g h (105 + 5 * i) 3
theorem pw_i4 {P : Nat → Prop} (h0 : P 0) (h1 : P 1) (h2 : P 2) (h3 : P 3) : ∀ i : Nat, i < 4 → P i := by
  intro i hi
  rcases (by omega : i = 0 ∨ i = 1 ∨ i = 2 ∨ i = 3) with rfl | rfl | rfl | rfl
  · exact h0
  · exact h1
  · exact h2
  · exact h3
/-- the same before, the same after -/
theorem pw_MT.un {c c' d d' : Int} {o l o' l' p q p' q' : Nat → Int} {mk b a a' : Int} (h1 : pw_MT c c' o l o' l' mk b a) (h2 : pw_MT d d' p q p' q' mk b a') (hc : c = d) (ho : ∀ i : Nat, i < 4 → o i = p i ∧ l i = q i) : a = a' ∧ c' = d' ∧ ∀ i : Nat, i < 4 → o' i = p' i ∧ l' i = q' i := by
  have hm : 0 ≤ mk → mk ≤ 3 → o mk.toNat = p mk.toNat ∧ l mk.toNat = q mk.toNat := fun z1 z2 => ho _ (by omega)
  have same : (∀ i : Nat, i < 4 → o' i = o i ∧ l' i = l i) → (∀ i : Nat, i < 4 → p' i = p i ∧ q' i = q i) → ∀ i : Nat, i < 4 → o' i = p' i ∧ l' i = q' i := fun u v i hi => ⟨((u i hi).1.trans (ho i hi).1).trans (v i hi).1.symm, ((u i hi).2.trans (ho i hi).2).trans (v i hi).2.symm⟩
  rcases h1 with ⟨x1, x2, x3, x4⟩ | ⟨x1, x2, x3, x4, x5, x6, x7, x8⟩ | ⟨x1, x2, x3, x4, x5, x6, x7⟩ | ⟨x1, x2, x3, x4, x5, x6, x7, x8⟩ <;> rcases h2 with ⟨y1, y2, y3, y4⟩ | ⟨y1, y2, y3, y4, y5, y6, y7, y8⟩ | ⟨y1, y2, y3, y4, y5, y6, y7⟩ | ⟨y1, y2, y3, y4, y5, y6, y7, y8⟩
  · exact ⟨by omega, by omega, same x4 y4⟩
  · exfalso; omega
  · exfalso; omega
  · exfalso; omega
  · exfalso; omega
  · refine ⟨by omega, by omega, fun i hi => ?_⟩
    rcases (by omega : i = mk.toNat ∨ i ≠ mk.toNat) with e | e
    · rw [e]; constructor <;> omega
    · exact ⟨((x8 i hi e).1.trans (ho i hi).1).trans (y8 i hi e).1.symm, ((x8 i hi e).2.trans (ho i hi).2).trans (y8 i hi e).2.symm⟩
  · exfalso; omega
  · exfalso; omega
  · exfalso; omega
  · exfalso; omega
  · exact ⟨by omega, by omega, same x7 y7⟩
  · have := hm x1 x2; exfalso; omega
  · exfalso; omega
  · exfalso; omega
  · have := hm x1 x2; exfalso; omega
  · have := hm x1 x2; exact ⟨by omega, by omega, same x8 y8⟩

set_option maxHeartbeats 4000000 in
theorem cm_40_m {X : List (Nat × List Value)} {d : Nat} {h : pm_H} (hd : 1 ≤ d) (I : pw_I h)  : pw X d h 40 0 [some (.ref 116)] [] (fun h' v => h = h' ∧ ∃ a : Int, v = .inl (some (pw_i a)) ∧ 0 ≤ a ∧ a ≤ 20 ∧ (a = pw_g h 100 3)) := by
  have E : pm_ent 40 = some (1, 1, 4, 0, pmc_40) := rfl
  refine pw_ld E (pc' := 1) (st' := [.ref 116]) rfl (fun _ => rfl) ?_
  refine pw_getI I E (c := 100) (k := 3) (pc' := 4) rfl rfl rfl rfl rfl rfl (fun hf1a hf1b hf1c hf1d => ?_)
  refine pw_iret E rfl ?_
  exact ⟨rfl, ⟨_, rfl, by omega, by omega, by omega⟩⟩
set_option maxHeartbeats 4000000 in
theorem cm_41_m {X : List (Nat × List Value)} {d : Nat} {h : pm_H} (hd : 1 ≤ d) (I : pw_I h) (n : Int) (hn1 : 0 ≤ n) (hn2 : n ≤ 20) : pw X d h 41 0 [some (.ref 116), some (pw_i n)] [] (fun h' v => pw_I h' ∧ pw_E [100] h h' ∧ (pw_g h' 100 3 = min (pw_g h 100 3) n) ∧ (v = .inl none)) := by
  have E : pm_ent 41 = some (2, 2, 4, 4, pmc_41) := rfl
  have E0 : pw_E [100] h h := pw_E.rf _ _
  refine pw_ld E (pc' := 1) (st' := [.ref 116]) rfl (fun _ => rfl) ?_
  refine pw_ld E (pc' := 2) (st' := [.ref 116, .ref 116]) rfl (fun _ => rfl) ?_
  refine pw_getI I E (c := 100) (k := 3) (pc' := 5) rfl rfl rfl rfl rfl rfl (fun hf1a hf1b hf1c hf1d => ?_)
  refine pw_ld E (pc' := 6) (st' := [pw_i n, pw_i (pw_g h 100 3), .ref 116]) rfl (fun _ => rfl) ?_
  refine pw_min E rfl rfl (by omega) (by omega) (by omega) (by omega) rfl ?_
  refine pw_putI I E (c := 100) (k := 3) (pc' := 12) rfl rfl rfl rfl (by omega) (by omega) (by omega) (by omega) rfl rfl ?_
  intro h2I h2E
  generalize h2w : pw_w h 100 3 (pw_i (min (pw_g h 100 3) n)) = h2 at h2I h2E ⊢
  have h2F := E0.tr (h2E.wk (W' := [100]) (by first | rfl | simp))
  have he3 : pw_g h2 100 3 = min (pw_g h 100 3) n := by rw [← h2w]; exact pw_g_eq (c := 100) (k := 3) I rfl rfl (by omega) (by omega)
  refine pw_vret E rfl ?_
  exact ⟨h2I, h2F, ⟨by omega, rfl⟩⟩
set_option maxHeartbeats 4000000 in
theorem cm_37_m {X : List (Nat × List Value)} {d : Nat} {h : pm_H} (hd : 2 ≤ d) (I : pw_I h) (su : Int) (hsu1 : (-9999) ≤ su) (hsu2 : su ≤ 9999) (n : Int) (hn1 : 1 ≤ n) (hn2 : n ≤ 999) (z : Int) (hz1 : 0 ≤ z) (hz2 : z ≤ 1) : pw X d h 37 0 [some (.ref 116), some (pw_i su), some (pw_i n), some (pw_i z)] [] (fun h' v => pw_I h' ∧ pw_E [100, 101, 102, 103] h h' ∧ ∃ a : Int, v = .inl (some (pw_i a)) ∧ (-1) ≤ a ∧ a ≤ 19 ∧ ((pw_g h 100 3 < 20 ∧ a = pw_g h 100 3 ∧ pw_g h' 100 3 = pw_g h 100 3 + 1) ∨ (20 ≤ pw_g h 100 3 ∧ a = -1 ∧ pw_g h' 100 3 = pw_g h 100 3))) := by
  have E : pm_ent 37 = some (4, 4, 4, 0, pmc_37) := rfl
  have E0 : pw_E [100, 101, 102, 103] h h := pw_E.rf _ _
  refine pw_ld E (pc' := 1) (st' := [.ref 116]) rfl (fun _ => rfl) ?_
  obtain ⟨f1l, f1h, -⟩ := pw_obj (c := 100) I rfl
  refine pw_call (m' := 36) (As := [.ref 116]) (rest := []) (ls'' := [some (.ref 116)]) (by omega) E rfl (fun _ => pw_iV rfl rfl rfl rfl (pw_cellI f1h rfl)) (rfl : pm_ent 36 = some (1, 1, 4, 1, pmc_36)) rfl rfl (cm_36 (by omega) I ) ?_
  rintro u3 v2 ⟨rfl, x4, rfl, hx4a, hx4b, hx4r⟩
  refine ⟨_, rfl, ?_⟩
  show pw X d h 37 4 [some (.ref 116), some (pw_i su), some (pw_i n), some (pw_i z)] [pw_i x4] _
  have hx4r : (x4 = 1 ∧ 20 ≤ pw_g h 100 3) ∨ (x4 = 0 ∧ pw_g h 100 3 < 20) := hx4r
  rcases (by omega : x4 = 1 ∨ x4 = 0) with hb5 | hb5
  · have hb5 : x4 = 1 := by omega
    refine pw_if E (pc' := 9) rfl (by decide) (by omega) (by omega) ?_ ?_
    · intro hc6
      have hc6 : x4 = (0 : Int) := hc6
      exfalso; omega
    · intro hc7
      have hc7 : ¬ (x4 = (0 : Int)) := hc7
      refine pw_ld E (pc' := 8) (st' := [pw_i ((-1))]) rfl (fun _ => rfl) ?_
      refine pw_iret E rfl ?_
      exact ⟨I, E0, ⟨_, rfl, by omega, by omega, by omega⟩⟩
  · have hb8 : x4 = 0 := by omega
    refine pw_if E (pc' := 9) rfl (by decide) (by omega) (by omega) ?_ ?_
    · intro hc9
      have hc9 : x4 = (0 : Int) := hc9
      refine pw_ld E (pc' := 10) (st' := [.ref 116]) rfl (fun _ => rfl) ?_
      refine pw_getR (b := 117) I E (c := 100) (k := 0) (pc' := 13) rfl rfl rfl rfl rfl rfl rfl ?_
      refine pw_ld E (pc' := 14) (st' := [.ref 116, .ref 117]) rfl (fun _ => rfl) ?_
      refine pw_getI I E (c := 100) (k := 3) (pc' := 17) rfl rfl rfl rfl rfl rfl (fun hf10a hf10b hf10c hf10d => ?_)
      refine pw_ld E (pc' := 18) (st' := [pw_i su, pw_i (pw_g h 100 3), .ref 117]) rfl (fun _ => rfl) ?_
      refine pw_ast0 I E (c := 101) (pc' := 19) rfl rfl rfl (by decide) rfl (by decide) (by omega) (by omega) rfl (by omega) (by omega) (by omega) (by omega) rfl ?_
      intro h11I h11E
      generalize h11w : pw_w h 101 ((pw_g h 100 3).toNat) (pw_i su) = h11 at h11I h11E ⊢
      have h11F := E0.tr (h11E.wk (W' := [100, 101, 102, 103]) (by first | rfl | simp))
      refine pw_ld E (pc' := 20) (st' := [.ref 116]) rfl (fun _ => rfl) ?_
      refine pw_getR (b := 118) h11I E (c := 100) (k := 1) (pc' := 23) rfl rfl rfl rfl rfl rfl rfl ?_
      refine pw_ld E (pc' := 24) (st' := [.ref 116, .ref 118]) rfl (fun _ => rfl) ?_
      have he13 : pw_g h11 100 3 = pw_g h 100 3 := by rw [← h11w]; exact pw_g_ne (by omega)
      refine pw_getI h11I E (c := 100) (k := 3) (pc' := 27) rfl rfl rfl rfl rfl rfl (fun hf12a hf12b hf12c hf12d => ?_)
      refine pw_ld E (pc' := 28) (st' := [pw_i n, pw_i (pw_g h11 100 3), .ref 118]) rfl (fun _ => rfl) ?_
      refine pw_ast0 h11I E (c := 102) (pc' := 29) rfl rfl rfl (by decide) rfl (by decide) (by omega) (by omega) rfl (by omega) (by omega) (by omega) (by omega) rfl ?_
      intro h14I h14E
      generalize h14w : pw_w h11 102 ((pw_g h11 100 3).toNat) (pw_i n) = h14 at h14I h14E ⊢
      have h14F := h11F.tr (h14E.wk (W' := [100, 101, 102, 103]) (by first | rfl | simp))
      refine pw_ld E (pc' := 30) (st' := [.ref 116]) rfl (fun _ => rfl) ?_
      refine pw_getR (b := 119) h14I E (c := 100) (k := 2) (pc' := 33) rfl rfl rfl rfl rfl rfl rfl ?_
      refine pw_ld E (pc' := 34) (st' := [.ref 116, .ref 119]) rfl (fun _ => rfl) ?_
      have he16 : pw_g h14 100 3 = pw_g h11 100 3 := by rw [← h14w]; exact pw_g_ne (by omega)
      refine pw_getI h14I E (c := 100) (k := 3) (pc' := 37) rfl rfl rfl rfl rfl rfl (fun hf15a hf15b hf15c hf15d => ?_)
      refine pw_ld E (pc' := 38) (st' := [pw_i z, pw_i (pw_g h14 100 3), .ref 119]) rfl (fun _ => rfl) ?_
      refine pw_ast0 h14I E (c := 103) (pc' := 39) rfl rfl rfl (by decide) rfl (by decide) (by omega) (by omega) (pw_b1 (by omega) (by omega)) (by omega) (by omega) (by omega) (by omega) rfl ?_
      intro h17I h17E
      generalize h17w : pw_w h14 103 ((pw_g h14 100 3).toNat) (pw_i z) = h17 at h17I h17E ⊢
      have h17F := h14F.tr (h17E.wk (W' := [100, 101, 102, 103]) (by first | rfl | simp))
      refine pw_ld E (pc' := 40) (st' := [.ref 116]) rfl (fun _ => rfl) ?_
      refine pw_ld E (pc' := 41) (st' := [.ref 116, .ref 116]) rfl (fun _ => rfl) ?_
      have he19 : pw_g h17 100 3 = pw_g h14 100 3 := by rw [← h17w]; exact pw_g_ne (by omega)
      refine pw_getI h17I E (c := 100) (k := 3) (pc' := 44) rfl rfl rfl rfl rfl rfl (fun hf18a hf18b hf18c hf18d => ?_)
      refine pw_ld E (pc' := 45) (st' := [pw_i 1, pw_i (pw_g h17 100 3), .ref 116]) rfl (fun _ => rfl) ?_
      refine pw_add E (pc' := 46) rfl rfl ?_
      refine pw_putI h17I E (c := 100) (k := 3) (pc' := 49) rfl rfl rfl rfl (by omega) (by omega) (by omega) (by omega) rfl rfl ?_
      intro h20I h20E
      generalize h20w : pw_w h17 100 3 (pw_i ((pw_g h17 100 3) + 1)) = h20 at h20I h20E ⊢
      have h20F := h17F.tr (h20E.wk (W' := [100, 101, 102, 103]) (by first | rfl | simp))
      refine pw_ld E (pc' := 50) (st' := [.ref 116]) rfl (fun _ => rfl) ?_
      have he22 : pw_g h20 100 3 = (pw_g h17 100 3) + 1 := by rw [← h20w]; exact pw_g_eq (c := 100) (k := 3) h17I rfl rfl (by omega) (by omega)
      refine pw_getI h20I E (c := 100) (k := 3) (pc' := 53) rfl rfl rfl rfl rfl rfl (fun hf21a hf21b hf21c hf21d => ?_)
      refine pw_ld E (pc' := 54) (st' := [pw_i 1, pw_i (pw_g h20 100 3)]) rfl (fun _ => rfl) ?_
      refine pw_sub E (pc' := 55) rfl rfl ?_
      refine pw_iret E rfl ?_
      exact ⟨h20I, h20F, ⟨_, rfl, by omega, by omega, by omega⟩⟩
    · intro hc23
      have hc23 : ¬ (x4 = (0 : Int)) := hc23
      exfalso; omega
set_option maxHeartbeats 4000000 in
theorem cm_151_m {X : List (Nat × List Value)} {d : Nat} {h : pm_H} (hd : 3 ≤ d) (I : pw_I h) (su : Int) (hsu1 : (-2147483648) ≤ su) (hsu2 : su ≤ 2147483647) (n : Int) (hn1 : (-2147483648) ≤ n) (hn2 : n ≤ 2147483647) (z : Int) (hz1 : 0 ≤ z) (hz2 : z ≤ 1) : pw X d h 151 0 [some (.ref 16), some (pw_i su), some (pw_i n), some (pw_i z)] [] (fun h' v => pw_I h' ∧ pw_E [100, 101, 102, 103] h h' ∧ ∃ a : Int, v = .inl (some (pw_i a)) ∧ (-2147483648) ≤ a ∧ a ≤ 2147483647 ∧ (((-9999) ≤ su ∧ su ≤ 9999 ∧ 1 ≤ n ∧ n ≤ 999 ∧ pw_g h 100 3 < 20 ∧ a = pw_g h 100 3 ∧ pw_g h' 100 3 = pw_g h 100 3 + 1) ∨ (¬ ((-9999) ≤ su ∧ su ≤ 9999 ∧ 1 ≤ n ∧ n ≤ 999 ∧ pw_g h 100 3 < 20) ∧ a = -1 ∧ pw_g h' 100 3 = pw_g h 100 3))) := by
  have E : pm_ent 151 = some (4, 4, 11, 0, pmc_151) := rfl
  have E0 : pw_E [100, 101, 102, 103] h h := pw_E.rf _ _
  refine pw_ld E (pc' := 1) (st' := [pw_i su]) rfl (fun _ => rfl) ?_
  refine pw_sip E (pc' := 4) rfl rfl (by decide) ?_
  refine pw_sip E (pc' := 7) rfl rfl (by decide) ?_
  refine pw_call (m' := 121) (As := [pw_i su, pw_i ((-9999)), pw_i 9999]) (rest := []) (ls'' := [some (pw_i su), some (pw_i ((-9999))), some (pw_i 9999)]) (by omega) E rfl (fun _ => pw_iS rfl rfl rfl) (rfl : pm_ent 121 = some (3, 3, 11, 1, pmc_121)) rfl rfl (cm_121 (by omega) I (su) (by omega) (by omega) ((-9999)) (by omega) (by omega) (9999) (by omega) (by omega)) ?_
  rintro u2 v1 ⟨rfl, x3, rfl, hx3a, hx3b, hx3r⟩
  refine ⟨_, rfl, ?_⟩
  show pw X d h 151 10 [some (.ref 16), some (pw_i su), some (pw_i n), some (pw_i z)] [pw_i x3] _
  have hx3r : (x3 = 1 ∧ (-9999) ≤ su ∧ su ≤ 9999) ∨ (x3 = 0 ∧ ¬ ((-9999) ≤ su ∧ su ≤ 9999)) := hx3r
  rcases (by omega : x3 = 1 ∨ x3 = 0) with hb4 | hb4
  · have hb4 : x3 = 1 := by omega
    refine pw_if E (pc' := 34) rfl (by decide) (by omega) (by omega) ?_ ?_
    · intro hc5
      have hc5 : x3 = (0 : Int) := hc5
      exfalso; omega
    · intro hc6
      have hc6 : ¬ (x3 = (0 : Int)) := hc6
      refine pw_ld E (pc' := 14) (st' := [pw_i n]) rfl (fun _ => rfl) ?_
      refine pw_ld E (pc' := 15) (st' := [pw_i 1, pw_i n]) rfl (fun _ => rfl) ?_
      refine pw_sip E (pc' := 18) rfl rfl (by decide) ?_
      refine pw_call (m' := 121) (As := [pw_i n, pw_i 1, pw_i 999]) (rest := []) (ls'' := [some (pw_i n), some (pw_i 1), some (pw_i 999)]) (by omega) E rfl (fun _ => pw_iS rfl rfl rfl) (rfl : pm_ent 121 = some (3, 3, 11, 1, pmc_121)) rfl rfl (cm_121 (by omega) I (n) (by omega) (by omega) (1) (by omega) (by omega) (999) (by omega) (by omega)) ?_
      rintro u8 v7 ⟨rfl, x9, rfl, hx9a, hx9b, hx9r⟩
      refine ⟨_, rfl, ?_⟩
      show pw X d h 151 21 [some (.ref 16), some (pw_i su), some (pw_i n), some (pw_i z)] [pw_i x9] _
      have hx9r : (x9 = 1 ∧ 1 ≤ n ∧ n ≤ 999) ∨ (x9 = 0 ∧ ¬ (1 ≤ n ∧ n ≤ 999)) := hx9r
      rcases (by omega : x9 = 1 ∨ x9 = 0) with hb10 | hb10
      · have hb10 : x9 = 1 := by omega
        refine pw_if E (pc' := 34) rfl (by decide) (by omega) (by omega) ?_ ?_
        · intro hc11
          have hc11 : x9 = (0 : Int) := hc11
          exfalso; omega
        · intro hc12
          have hc12 : ¬ (x9 = (0 : Int)) := hc12
          refine pw_ld E (pc' := 25) (st' := [.ref 16]) rfl (fun _ => rfl) ?_
          refine pw_getR (b := 116) I E (c := 0) (k := 18) (pc' := 28) rfl rfl rfl rfl rfl rfl rfl ?_
          obtain ⟨f13l, f13h, -⟩ := pw_obj (c := 100) I rfl
          refine pw_call (m' := 36) (As := [.ref 116]) (rest := []) (ls'' := [some (.ref 116)]) (by omega) E rfl (fun _ => pw_iV rfl rfl rfl rfl (pw_cellI f13h rfl)) (rfl : pm_ent 36 = some (1, 1, 4, 1, pmc_36)) rfl rfl (cm_36 (by omega) I ) ?_
          rintro u15 v14 ⟨rfl, x16, rfl, hx16a, hx16b, hx16r⟩
          refine ⟨_, rfl, ?_⟩
          show pw X d h 151 31 [some (.ref 16), some (pw_i su), some (pw_i n), some (pw_i z)] [pw_i x16] _
          have hx16r : (x16 = 1 ∧ 20 ≤ pw_g h 100 3) ∨ (x16 = 0 ∧ pw_g h 100 3 < 20) := hx16r
          rcases (by omega : x16 = 1 ∨ x16 = 0) with hb17 | hb17
          · have hb17 : x16 = 1 := by omega
            refine pw_if E (pc' := 36) rfl (by decide) (by omega) (by omega) ?_ ?_
            · intro hc18
              have hc18 : x16 = (0 : Int) := hc18
              exfalso; omega
            · intro hc19
              have hc19 : ¬ (x16 = (0 : Int)) := hc19
              refine pw_ld E (pc' := 35) (st' := [pw_i ((-1))]) rfl (fun _ => rfl) ?_
              refine pw_iret E rfl ?_
              exact ⟨I, E0, ⟨_, rfl, by omega, by omega, by omega⟩⟩
          · have hb20 : x16 = 0 := by omega
            refine pw_if E (pc' := 36) rfl (by decide) (by omega) (by omega) ?_ ?_
            · intro hc21
              have hc21 : x16 = (0 : Int) := hc21
              refine pw_ld E (pc' := 37) (st' := [.ref 16]) rfl (fun _ => rfl) ?_
              refine pw_getR (b := 116) I E (c := 0) (k := 18) (pc' := 40) rfl rfl rfl rfl rfl rfl rfl ?_
              refine pw_ld E (pc' := 41) (st' := [pw_i su, .ref 116]) rfl (fun _ => rfl) ?_
              refine pw_ld E (pc' := 42) (st' := [pw_i n, pw_i su, .ref 116]) rfl (fun _ => rfl) ?_
              refine pw_ld E (pc' := 43) (st' := [pw_i z, pw_i n, pw_i su, .ref 116]) rfl (fun _ => rfl) ?_
              obtain ⟨f22l, f22h, -⟩ := pw_obj (c := 100) I rfl
              refine pw_call (m' := 37) (As := [.ref 116, pw_i su, pw_i n, pw_i z]) (rest := []) (ls'' := [some (.ref 116), some (pw_i su), some (pw_i n), some (pw_i z)]) (by omega) E rfl (fun _ => pw_iV rfl rfl rfl rfl (pw_cellI f22h rfl)) (rfl : pm_ent 37 = some (4, 4, 4, 0, pmc_37)) rfl rfl (cm_37_m (by omega) I (su) (by omega) (by omega) (n) (by omega) (by omega) (z) (by omega) (by omega)) ?_
              rintro h23 v24 ⟨h23I, h23E, x25, rfl, hx25a, hx25b, hx25r⟩
              refine ⟨_, rfl, ?_⟩
              have h23F := E0.tr (h23E.wk (W' := [100, 101, 102, 103]) (by first | rfl | simp))
              show pw X d h23 151 46 [some (.ref 16), some (pw_i su), some (pw_i n), some (pw_i z)] [pw_i x25] _
              have hx25r : (pw_g h 100 3 < 20 ∧ x25 = pw_g h 100 3 ∧ pw_g h23 100 3 = pw_g h 100 3 + 1) ∨ (20 ≤ pw_g h 100 3 ∧ x25 = -1 ∧ pw_g h23 100 3 = pw_g h 100 3) := hx25r
              refine pw_iret E rfl ?_
              exact ⟨h23I, h23F, ⟨_, rfl, by omega, by omega, by omega⟩⟩
            · intro hc26
              have hc26 : ¬ (x16 = (0 : Int)) := hc26
              exfalso; omega
      · have hb27 : x9 = 0 := by omega
        refine pw_if E (pc' := 34) rfl (by decide) (by omega) (by omega) ?_ ?_
        · intro hc28
          have hc28 : x9 = (0 : Int) := hc28
          refine pw_ld E (pc' := 35) (st' := [pw_i ((-1))]) rfl (fun _ => rfl) ?_
          refine pw_iret E rfl ?_
          exact ⟨I, E0, ⟨_, rfl, by omega, by omega, by omega⟩⟩
        · intro hc29
          have hc29 : ¬ (x9 = (0 : Int)) := hc29
          exfalso; omega
  · have hb30 : x3 = 0 := by omega
    refine pw_if E (pc' := 34) rfl (by decide) (by omega) (by omega) ?_ ?_
    · intro hc31
      have hc31 : x3 = (0 : Int) := hc31
      refine pw_ld E (pc' := 35) (st' := [pw_i ((-1))]) rfl (fun _ => rfl) ?_
      refine pw_iret E rfl ?_
      exact ⟨I, E0, ⟨_, rfl, by omega, by omega, by omega⟩⟩
    · intro hc32
      have hc32 : ¬ (x3 = (0 : Int)) := hc32
      exfalso; omega
set_option maxHeartbeats 4000000 in
theorem cm_273_m {X : List (Nat × List Value)} {d : Nat} {h : pm_H} (hd : 2 ≤ d) (I : pw_I h) (su : Int) (hsu1 : (-2147483648) ≤ su) (hsu2 : su ≤ 2147483647) (n : Int) (hn1 : (-2147483648) ≤ n) (hn2 : n ≤ 2147483647) (z : Int) (hz1 : 0 ≤ z) (hz2 : z ≤ 1) : pw X d h 273 0 [some (.ref 141), some (pw_i su), some (pw_i n), some (pw_i z)] [] (fun h' v => pw_I h' ∧ pw_E [125, 154, 155, 156, 1041] h h' ∧ ∃ a : Int, v = .inl (some (pw_i a)) ∧ (-2147483648) ≤ a ∧ a ≤ 2147483647 ∧ (((-9999) ≤ su ∧ su ≤ 9999 ∧ 1 ≤ n ∧ n ≤ 999 ∧ pw_g h 125 41 < 20 ∧ a = pw_g h 125 41 ∧ pw_g h' 125 41 = pw_g h 125 41 + 1) ∨ (¬ ((-9999) ≤ su ∧ su ≤ 9999 ∧ 1 ≤ n ∧ n ≤ 999 ∧ pw_g h 125 41 < 20) ∧ a = -1 ∧ pw_g h' 125 41 = pw_g h 125 41))) := by
  have E : pm_ent 273 = some (4, 4, 12, 0, pmc_273) := rfl
  have E0 : pw_E [125, 154, 155, 156, 1041] h h := pw_E.rf _ _
  refine pw_ld E (pc' := 1) (st' := [.ref 141]) rfl (fun _ => rfl) ?_
  refine pw_ld E (pc' := 2) (st' := [pw_i 0, .ref 141]) rfl (fun _ => rfl) ?_
  refine pw_putI I E (c := 125) (k := 0) (pc' := 5) rfl rfl rfl rfl (by omega) (by omega) (by omega) (by omega) rfl rfl ?_
  intro h1I h1E
  generalize h1w : pw_w h 125 0 (pw_i 0) = h1 at h1I h1E ⊢
  have h1F := E0.tr (h1E.wk (W' := [125, 154, 155, 156, 1041]) (by first | rfl | simp))
  refine pw_ld E (pc' := 6) (st' := [pw_i su]) rfl (fun _ => rfl) ?_
  refine pw_sip E (pc' := 9) rfl rfl (by decide) ?_
  refine pw_sip E (pc' := 12) rfl rfl (by decide) ?_
  refine pw_call (m' := 202) (As := [pw_i su, pw_i ((-9999)), pw_i 9999]) (rest := []) (ls'' := [some (pw_i su), some (pw_i ((-9999))), some (pw_i 9999)]) (by omega) E rfl (fun _ => pw_iS rfl rfl rfl) (rfl : pm_ent 202 = some (3, 3, 12, 1, pmc_202)) rfl rfl (cm_202 (by omega) h1I (su) (by omega) (by omega) ((-9999)) (by omega) (by omega) (9999) (by omega) (by omega)) ?_
  rintro u3 v2 ⟨rfl, x4, rfl, hx4a, hx4b, hx4r⟩
  refine ⟨_, rfl, ?_⟩
  show pw X d h1 273 15 [some (.ref 141), some (pw_i su), some (pw_i n), some (pw_i z)] [pw_i x4] _
  have hx4r : (x4 = 1 ∧ (-9999) ≤ su ∧ su ≤ 9999) ∨ (x4 = 0 ∧ ¬ ((-9999) ≤ su ∧ su ≤ 9999)) := hx4r
  rcases (by omega : x4 = 1 ∨ x4 = 0) with hb5 | hb5
  · have hb5 : x4 = 1 := by omega
    refine pw_if E (pc' := 38) rfl (by decide) (by omega) (by omega) ?_ ?_
    · intro hc6
      have hc6 : x4 = (0 : Int) := hc6
      exfalso; omega
    · intro hc7
      have hc7 : ¬ (x4 = (0 : Int)) := hc7
      refine pw_ld E (pc' := 19) (st' := [pw_i n]) rfl (fun _ => rfl) ?_
      refine pw_ld E (pc' := 20) (st' := [pw_i 1, pw_i n]) rfl (fun _ => rfl) ?_
      refine pw_sip E (pc' := 23) rfl rfl (by decide) ?_
      refine pw_call (m' := 202) (As := [pw_i n, pw_i 1, pw_i 999]) (rest := []) (ls'' := [some (pw_i n), some (pw_i 1), some (pw_i 999)]) (by omega) E rfl (fun _ => pw_iS rfl rfl rfl) (rfl : pm_ent 202 = some (3, 3, 12, 1, pmc_202)) rfl rfl (cm_202 (by omega) h1I (n) (by omega) (by omega) (1) (by omega) (by omega) (999) (by omega) (by omega)) ?_
      rintro u9 v8 ⟨rfl, x10, rfl, hx10a, hx10b, hx10r⟩
      refine ⟨_, rfl, ?_⟩
      show pw X d h1 273 26 [some (.ref 141), some (pw_i su), some (pw_i n), some (pw_i z)] [pw_i x10] _
      have hx10r : (x10 = 1 ∧ 1 ≤ n ∧ n ≤ 999) ∨ (x10 = 0 ∧ ¬ (1 ≤ n ∧ n ≤ 999)) := hx10r
      rcases (by omega : x10 = 1 ∨ x10 = 0) with hb11 | hb11
      · have hb11 : x10 = 1 := by omega
        refine pw_if E (pc' := 38) rfl (by decide) (by omega) (by omega) ?_ ?_
        · intro hc12
          have hc12 : x10 = (0 : Int) := hc12
          exfalso; omega
        · intro hc13
          have hc13 : ¬ (x10 = (0 : Int)) := hc13
          refine pw_ld E (pc' := 30) (st' := [.ref 141]) rfl (fun _ => rfl) ?_
          have he15 : pw_g h1 125 41 = pw_g h 125 41 := by rw [← h1w]; exact pw_g_ne (by omega)
          refine pw_getI h1I E (c := 125) (k := 41) (pc' := 33) rfl rfl rfl rfl rfl rfl (fun hf14a hf14b hf14c hf14d => ?_)
          refine pw_bip E (pc' := 35) rfl rfl (by decide) ?_
          refine pw_if2 E (pc' := 40) rfl (by decide) (by omega) (by omega) (by decide) (by decide) ?_ ?_
          · intro hc16
            have hc16 : pw_g h1 125 41 ≠ (20 : Int) := hc16
            refine pw_ld E (pc' := 41) (st' := [.ref 141]) rfl (fun _ => rfl) ?_
            refine pw_getR (b := 170) h1I E (c := 125) (k := 42) (pc' := 44) rfl rfl rfl rfl rfl rfl rfl ?_
            refine pw_ld E (pc' := 45) (st' := [.ref 141, .ref 170]) rfl (fun _ => rfl) ?_
            refine pw_getI h1I E (c := 125) (k := 41) (pc' := 48) rfl rfl rfl rfl rfl rfl (fun hf17a hf17b hf17c hf17d => ?_)
            refine pw_ld E (pc' := 49) (st' := [pw_i su, pw_i (pw_g h1 125 41), .ref 170]) rfl (fun _ => rfl) ?_
            refine pw_ast0 h1I E (c := 154) (pc' := 50) rfl rfl rfl (by decide) rfl (by decide) (by omega) (by omega) rfl (by omega) (by omega) (by omega) (by omega) rfl ?_
            intro h18I h18E
            generalize h18w : pw_w h1 154 ((pw_g h1 125 41).toNat) (pw_i su) = h18 at h18I h18E ⊢
            have h18F := h1F.tr (h18E.wk (W' := [125, 154, 155, 156, 1041]) (by first | rfl | simp))
            refine pw_ld E (pc' := 51) (st' := [.ref 141]) rfl (fun _ => rfl) ?_
            refine pw_getR (b := 171) h18I E (c := 125) (k := 43) (pc' := 54) rfl rfl rfl rfl rfl rfl rfl ?_
            refine pw_ld E (pc' := 55) (st' := [.ref 141, .ref 171]) rfl (fun _ => rfl) ?_
            have he20 : pw_g h18 125 41 = pw_g h1 125 41 := by rw [← h18w]; exact pw_g_ne (by omega)
            refine pw_getI h18I E (c := 125) (k := 41) (pc' := 58) rfl rfl rfl rfl rfl rfl (fun hf19a hf19b hf19c hf19d => ?_)
            refine pw_ld E (pc' := 59) (st' := [pw_i n, pw_i (pw_g h18 125 41), .ref 171]) rfl (fun _ => rfl) ?_
            refine pw_ast0 h18I E (c := 155) (pc' := 60) rfl rfl rfl (by decide) rfl (by decide) (by omega) (by omega) rfl (by omega) (by omega) (by omega) (by omega) rfl ?_
            intro h21I h21E
            generalize h21w : pw_w h18 155 ((pw_g h18 125 41).toNat) (pw_i n) = h21 at h21I h21E ⊢
            have h21F := h18F.tr (h21E.wk (W' := [125, 154, 155, 156, 1041]) (by first | rfl | simp))
            refine pw_ld E (pc' := 61) (st' := [.ref 141]) rfl (fun _ => rfl) ?_
            refine pw_getR (b := 172) h21I E (c := 125) (k := 44) (pc' := 64) rfl rfl rfl rfl rfl rfl rfl ?_
            refine pw_ld E (pc' := 65) (st' := [.ref 141, .ref 172]) rfl (fun _ => rfl) ?_
            have he23 : pw_g h21 125 41 = pw_g h18 125 41 := by rw [← h21w]; exact pw_g_ne (by omega)
            refine pw_getI h21I E (c := 125) (k := 41) (pc' := 68) rfl rfl rfl rfl rfl rfl (fun hf22a hf22b hf22c hf22d => ?_)
            refine pw_ld E (pc' := 69) (st' := [pw_i z, pw_i (pw_g h21 125 41), .ref 172]) rfl (fun _ => rfl) ?_
            refine pw_ast0 h21I E (c := 156) (pc' := 70) rfl rfl rfl (by decide) rfl (by decide) (by omega) (by omega) (pw_b1 (by omega) (by omega)) (by omega) (by omega) (by omega) (by omega) rfl ?_
            intro h24I h24E
            generalize h24w : pw_w h21 156 ((pw_g h21 125 41).toNat) (pw_i z) = h24 at h24I h24E ⊢
            have h24F := h21F.tr (h24E.wk (W' := [125, 154, 155, 156, 1041]) (by first | rfl | simp))
            refine pw_ld E (pc' := 71) (st' := [.ref 141]) rfl (fun _ => rfl) ?_
            refine pw_ld E (pc' := 72) (st' := [.ref 141, .ref 141]) rfl (fun _ => rfl) ?_
            have he26 : pw_g h24 125 41 = pw_g h21 125 41 := by rw [← h24w]; exact pw_g_ne (by omega)
            refine pw_getI h24I E (c := 125) (k := 41) (pc' := 75) rfl rfl rfl rfl rfl rfl (fun hf25a hf25b hf25c hf25d => ?_)
            refine pw_ld E (pc' := 76) (st' := [pw_i 1, pw_i (pw_g h24 125 41), .ref 141]) rfl (fun _ => rfl) ?_
            refine pw_add E (pc' := 77) rfl rfl ?_
            refine pw_putP h24I E (k := 41) (pc' := 80) rfl rfl rfl rfl (by omega) (by omega) (by omega) (by omega) rfl rfl ?_
            intro h27I h27E
            generalize h27w : pw_w h24 125 41 (pw_i ((pw_g h24 125 41) + 1)) = h27 at h27I h27E ⊢
            have h27F := h24F.tr (h27E.wk (W' := [125, 154, 155, 156, 1041]) (by first | rfl | simp))
            refine pw_ld E (pc' := 81) (st' := [.ref 141]) rfl (fun _ => rfl) ?_
            have he29 : pw_g h27 125 41 = (pw_g h24 125 41) + 1 := by rw [← h27w]; exact pw_g_eq (c := 125) (k := 41) h24I rfl rfl (by omega) (by omega)
            refine pw_getI h27I E (c := 125) (k := 41) (pc' := 84) rfl rfl rfl rfl rfl rfl (fun hf28a hf28b hf28c hf28d => ?_)
            refine pw_ld E (pc' := 85) (st' := [pw_i 1, pw_i (pw_g h27 125 41)]) rfl (fun _ => rfl) ?_
            refine pw_sub E (pc' := 86) rfl rfl ?_
            refine pw_iret E rfl ?_
            exact ⟨h27I, h27F, ⟨_, rfl, by omega, by omega, by omega⟩⟩
          · intro hc30
            have hc30 : ¬ (pw_g h1 125 41 ≠ (20 : Int)) := hc30
            refine pw_ld E (pc' := 39) (st' := [pw_i ((-1))]) rfl (fun _ => rfl) ?_
            refine pw_iret E rfl ?_
            exact ⟨h1I, h1F, ⟨_, rfl, by omega, by omega, by omega⟩⟩
      · have hb31 : x10 = 0 := by omega
        refine pw_if E (pc' := 38) rfl (by decide) (by omega) (by omega) ?_ ?_
        · intro hc32
          have hc32 : x10 = (0 : Int) := hc32
          refine pw_ld E (pc' := 39) (st' := [pw_i ((-1))]) rfl (fun _ => rfl) ?_
          have he33 : pw_g h1 125 41 = pw_g h 125 41 := by rw [← h1w]; exact pw_g_ne (by omega)
          refine pw_iret E rfl ?_
          exact ⟨h1I, h1F, ⟨_, rfl, by omega, by omega, by omega⟩⟩
        · intro hc34
          have hc34 : ¬ (x10 = (0 : Int)) := hc34
          exfalso; omega
  · have hb35 : x4 = 0 := by omega
    refine pw_if E (pc' := 38) rfl (by decide) (by omega) (by omega) ?_ ?_
    · intro hc36
      have hc36 : x4 = (0 : Int) := hc36
      refine pw_ld E (pc' := 39) (st' := [pw_i ((-1))]) rfl (fun _ => rfl) ?_
      have he37 : pw_g h1 125 41 = pw_g h 125 41 := by rw [← h1w]; exact pw_g_ne (by omega)
      refine pw_iret E rfl ?_
      exact ⟨h1I, h1F, ⟨_, rfl, by omega, by omega, by omega⟩⟩
    · intro hc38
      have hc38 : ¬ (x4 = (0 : Int)) := hc38
      exfalso; omega
set_option maxHeartbeats 4000000 in
theorem cm_31_105m {X : List (Nat × List Value)} {d : Nat} {h : pm_H} (hd : 2 ≤ d) (I : pw_I h) (c1 : Nat) (hc1 : pw_Lg c1) (c2 : Nat) (hc2 : pw_Lg c2) (n : Int) (hn1 : 0 ≤ n) (hn2 : n ≤ 20) : pw X d h 31 0 [some (.ref 121), some (.ref (16 + c1)), some (.ref (16 + c2)), some (pw_i n)] [] (fun h' v => pw_I h' ∧ pw_E [105, 107, 109] h h' ∧ (pw_g h' 105 2 = n ∧ pw_g h' 105 3 = 1) ∧ (v = .inl none)) := by
  have E : pm_ent 31 = some (4, 4, 3, 4, pmc_31) := rfl
  have E0 : pw_E [105, 107, 109] h h := pw_E.rf _ _
  refine pw_ld E (pc' := 1) (st' := [.ref 121]) rfl (fun _ => rfl) ?_
  refine pw_getR (b := 122) I E (c := 105) (k := 0) (pc' := 4) rfl rfl rfl rfl rfl rfl rfl ?_
  refine pw_ld E (pc' := 5) (st' := [.ref (16 + c1), .ref 122]) rfl (fun _ => rfl) ?_
  obtain ⟨f1l, f1h, -⟩ := pw_obj (c := 106) I rfl
  refine pw_call (m' := 25) (As := [.ref 122, .ref (16 + c1)]) (rest := []) (ls'' := [some (.ref 122), some (.ref (16 + c1))]) (by omega) E rfl (fun _ => pw_iV rfl rfl rfl rfl (pw_cellI f1h rfl)) (rfl : pm_ent 25 = some (2, 2, 2, 4, pmc_25)) rfl rfl (cm_25 (by omega) I 106 (by unfold pw_Lg; omega) c1 hc1) ?_
  rintro h2 v3 ⟨h2I, h2E, rfl⟩
  refine ⟨_, rfl, ?_⟩
  have h2F := E0.tr (h2E.wk (W' := [105, 107, 109]) (by first | rfl | simp))
  show pw X d h2 31 8 [some (.ref 121), some (.ref (16 + c1)), some (.ref (16 + c2)), some (pw_i n)] [] _
  refine pw_ld E (pc' := 9) (st' := [.ref 121]) rfl (fun _ => rfl) ?_
  refine pw_getR (b := 124) h2I E (c := 105) (k := 1) (pc' := 12) rfl rfl rfl rfl rfl rfl rfl ?_
  refine pw_ld E (pc' := 13) (st' := [.ref (16 + c2), .ref 124]) rfl (fun _ => rfl) ?_
  obtain ⟨f4l, f4h, -⟩ := pw_obj (c := 108) h2I rfl
  refine pw_call (m' := 25) (As := [.ref 124, .ref (16 + c2)]) (rest := []) (ls'' := [some (.ref 124), some (.ref (16 + c2))]) (by omega) E rfl (fun _ => pw_iV rfl rfl rfl rfl (pw_cellI f4h rfl)) (rfl : pm_ent 25 = some (2, 2, 2, 4, pmc_25)) rfl rfl (cm_25 (by omega) h2I 108 (by unfold pw_Lg; omega) c2 hc2) ?_
  rintro h5 v6 ⟨h5I, h5E, rfl⟩
  refine ⟨_, rfl, ?_⟩
  have h5F := h2F.tr (h5E.wk (W' := [105, 107, 109]) (by first | rfl | simp))
  show pw X d h5 31 16 [some (.ref 121), some (.ref (16 + c1)), some (.ref (16 + c2)), some (pw_i n)] [] _
  refine pw_ld E (pc' := 17) (st' := [.ref 121]) rfl (fun _ => rfl) ?_
  refine pw_ld E (pc' := 18) (st' := [pw_i n, .ref 121]) rfl (fun _ => rfl) ?_
  refine pw_putI h5I E (c := 105) (k := 2) (pc' := 21) rfl rfl rfl rfl (by omega) (by omega) (by omega) (by omega) rfl rfl ?_
  intro h7I h7E
  generalize h7w : pw_w h5 105 2 (pw_i n) = h7 at h7I h7E ⊢
  have h7F := h5F.tr (h7E.wk (W' := [105, 107, 109]) (by first | rfl | simp))
  refine pw_ld E (pc' := 22) (st' := [.ref 121]) rfl (fun _ => rfl) ?_
  refine pw_ld E (pc' := 23) (st' := [pw_i 1, .ref 121]) rfl (fun _ => rfl) ?_
  refine pw_putZ h7I E (c := 105) (k := 3) (pc' := 26) rfl rfl rfl rfl (by omega) (by omega) (by omega) rfl rfl ?_
  intro h8I h8E
  generalize h8w : pw_w h7 105 3 (pw_i 1) = h8 at h8I h8E ⊢
  have h8F := h7F.tr (h8E.wk (W' := [105, 107, 109]) (by first | rfl | simp))
  have he9 : pw_g h8 105 2 = pw_g h7 105 2 := by rw [← h8w]; exact pw_g_ne (by omega)
  have he10 : pw_g h7 105 2 = n := by rw [← h7w]; exact pw_g_eq (c := 105) (k := 2) h5I rfl rfl (by omega) (by omega)
  have he11 : pw_g h8 105 3 = 1 := by rw [← h8w]; exact pw_g_eq (c := 105) (k := 3) h7I rfl rfl (by omega) (by omega)
  refine pw_vret E rfl ?_
  exact ⟨h8I, h8F, ⟨by omega, rfl⟩⟩
set_option maxHeartbeats 4000000 in
theorem cm_32_105m {X : List (Nat × List Value)} {d : Nat} {h : pm_H} (hd : 1 ≤ d) (I : pw_I h)  : pw X d h 32 0 [some (.ref 121)] [] (fun h' v => h = h' ∧ ∃ a : Int, v = .inl (some (pw_i a)) ∧ 0 ≤ a ∧ a ≤ 1 ∧ (a = pw_g h 105 3)) := by
  have E : pm_ent 32 = some (1, 1, 3, 1, pmc_32) := rfl
  refine pw_ld E (pc' := 1) (st' := [.ref 121]) rfl (fun _ => rfl) ?_
  refine pw_getI I E (c := 105) (k := 3) (pc' := 4) rfl rfl rfl rfl rfl rfl (fun hf1a hf1b hf1c hf1d => ?_)
  refine pw_zret E rfl (by omega) ?_
  exact ⟨rfl, ⟨_, rfl, by omega, by omega, by omega⟩⟩
set_option maxHeartbeats 4000000 in
theorem cm_33_105m {X : List (Nat × List Value)} {d : Nat} {h : pm_H} (hd : 1 ≤ d) (I : pw_I h)  : pw X d h 33 0 [some (.ref 121)] [] (fun h' v => h = h' ∧ ∃ a : Int, v = .inl (some (pw_i a)) ∧ 0 ≤ a ∧ a ≤ 20 ∧ (a = pw_g h 105 2)) := by
  have E : pm_ent 33 = some (1, 1, 3, 0, pmc_33) := rfl
  refine pw_ld E (pc' := 1) (st' := [.ref 121]) rfl (fun _ => rfl) ?_
  refine pw_getI I E (c := 105) (k := 2) (pc' := 4) rfl rfl rfl rfl rfl rfl (fun hf1a hf1b hf1c hf1d => ?_)
  refine pw_iret E rfl ?_
  exact ⟨rfl, ⟨_, rfl, by omega, by omega, by omega⟩⟩
set_option maxHeartbeats 4000000 in
theorem cm_31_110m {X : List (Nat × List Value)} {d : Nat} {h : pm_H} (hd : 2 ≤ d) (I : pw_I h) (c1 : Nat) (hc1 : pw_Lg c1) (c2 : Nat) (hc2 : pw_Lg c2) (n : Int) (hn1 : 0 ≤ n) (hn2 : n ≤ 20) : pw X d h 31 0 [some (.ref 126), some (.ref (16 + c1)), some (.ref (16 + c2)), some (pw_i n)] [] (fun h' v => pw_I h' ∧ pw_E [110, 112, 114] h h' ∧ (pw_g h' 110 2 = n ∧ pw_g h' 110 3 = 1) ∧ (v = .inl none)) := by
  have E : pm_ent 31 = some (4, 4, 3, 4, pmc_31) := rfl
  have E0 : pw_E [110, 112, 114] h h := pw_E.rf _ _
  refine pw_ld E (pc' := 1) (st' := [.ref 126]) rfl (fun _ => rfl) ?_
  refine pw_getR (b := 127) I E (c := 110) (k := 0) (pc' := 4) rfl rfl rfl rfl rfl rfl rfl ?_
  refine pw_ld E (pc' := 5) (st' := [.ref (16 + c1), .ref 127]) rfl (fun _ => rfl) ?_
  obtain ⟨f1l, f1h, -⟩ := pw_obj (c := 111) I rfl
  refine pw_call (m' := 25) (As := [.ref 127, .ref (16 + c1)]) (rest := []) (ls'' := [some (.ref 127), some (.ref (16 + c1))]) (by omega) E rfl (fun _ => pw_iV rfl rfl rfl rfl (pw_cellI f1h rfl)) (rfl : pm_ent 25 = some (2, 2, 2, 4, pmc_25)) rfl rfl (cm_25 (by omega) I 111 (by unfold pw_Lg; omega) c1 hc1) ?_
  rintro h2 v3 ⟨h2I, h2E, rfl⟩
  refine ⟨_, rfl, ?_⟩
  have h2F := E0.tr (h2E.wk (W' := [110, 112, 114]) (by first | rfl | simp))
  show pw X d h2 31 8 [some (.ref 126), some (.ref (16 + c1)), some (.ref (16 + c2)), some (pw_i n)] [] _
  refine pw_ld E (pc' := 9) (st' := [.ref 126]) rfl (fun _ => rfl) ?_
  refine pw_getR (b := 129) h2I E (c := 110) (k := 1) (pc' := 12) rfl rfl rfl rfl rfl rfl rfl ?_
  refine pw_ld E (pc' := 13) (st' := [.ref (16 + c2), .ref 129]) rfl (fun _ => rfl) ?_
  obtain ⟨f4l, f4h, -⟩ := pw_obj (c := 113) h2I rfl
  refine pw_call (m' := 25) (As := [.ref 129, .ref (16 + c2)]) (rest := []) (ls'' := [some (.ref 129), some (.ref (16 + c2))]) (by omega) E rfl (fun _ => pw_iV rfl rfl rfl rfl (pw_cellI f4h rfl)) (rfl : pm_ent 25 = some (2, 2, 2, 4, pmc_25)) rfl rfl (cm_25 (by omega) h2I 113 (by unfold pw_Lg; omega) c2 hc2) ?_
  rintro h5 v6 ⟨h5I, h5E, rfl⟩
  refine ⟨_, rfl, ?_⟩
  have h5F := h2F.tr (h5E.wk (W' := [110, 112, 114]) (by first | rfl | simp))
  show pw X d h5 31 16 [some (.ref 126), some (.ref (16 + c1)), some (.ref (16 + c2)), some (pw_i n)] [] _
  refine pw_ld E (pc' := 17) (st' := [.ref 126]) rfl (fun _ => rfl) ?_
  refine pw_ld E (pc' := 18) (st' := [pw_i n, .ref 126]) rfl (fun _ => rfl) ?_
  refine pw_putI h5I E (c := 110) (k := 2) (pc' := 21) rfl rfl rfl rfl (by omega) (by omega) (by omega) (by omega) rfl rfl ?_
  intro h7I h7E
  generalize h7w : pw_w h5 110 2 (pw_i n) = h7 at h7I h7E ⊢
  have h7F := h5F.tr (h7E.wk (W' := [110, 112, 114]) (by first | rfl | simp))
  refine pw_ld E (pc' := 22) (st' := [.ref 126]) rfl (fun _ => rfl) ?_
  refine pw_ld E (pc' := 23) (st' := [pw_i 1, .ref 126]) rfl (fun _ => rfl) ?_
  refine pw_putZ h7I E (c := 110) (k := 3) (pc' := 26) rfl rfl rfl rfl (by omega) (by omega) (by omega) rfl rfl ?_
  intro h8I h8E
  generalize h8w : pw_w h7 110 3 (pw_i 1) = h8 at h8I h8E ⊢
  have h8F := h7F.tr (h8E.wk (W' := [110, 112, 114]) (by first | rfl | simp))
  have he9 : pw_g h8 110 2 = pw_g h7 110 2 := by rw [← h8w]; exact pw_g_ne (by omega)
  have he10 : pw_g h7 110 2 = n := by rw [← h7w]; exact pw_g_eq (c := 110) (k := 2) h5I rfl rfl (by omega) (by omega)
  have he11 : pw_g h8 110 3 = 1 := by rw [← h8w]; exact pw_g_eq (c := 110) (k := 3) h7I rfl rfl (by omega) (by omega)
  refine pw_vret E rfl ?_
  exact ⟨h8I, h8F, ⟨by omega, rfl⟩⟩
set_option maxHeartbeats 4000000 in
theorem cm_32_110m {X : List (Nat × List Value)} {d : Nat} {h : pm_H} (hd : 1 ≤ d) (I : pw_I h)  : pw X d h 32 0 [some (.ref 126)] [] (fun h' v => h = h' ∧ ∃ a : Int, v = .inl (some (pw_i a)) ∧ 0 ≤ a ∧ a ≤ 1 ∧ (a = pw_g h 110 3)) := by
  have E : pm_ent 32 = some (1, 1, 3, 1, pmc_32) := rfl
  refine pw_ld E (pc' := 1) (st' := [.ref 126]) rfl (fun _ => rfl) ?_
  refine pw_getI I E (c := 110) (k := 3) (pc' := 4) rfl rfl rfl rfl rfl rfl (fun hf1a hf1b hf1c hf1d => ?_)
  refine pw_zret E rfl (by omega) ?_
  exact ⟨rfl, ⟨_, rfl, by omega, by omega, by omega⟩⟩
set_option maxHeartbeats 4000000 in
theorem cm_33_110m {X : List (Nat × List Value)} {d : Nat} {h : pm_H} (hd : 1 ≤ d) (I : pw_I h)  : pw X d h 33 0 [some (.ref 126)] [] (fun h' v => h = h' ∧ ∃ a : Int, v = .inl (some (pw_i a)) ∧ 0 ≤ a ∧ a ≤ 20 ∧ (a = pw_g h 110 2)) := by
  have E : pm_ent 33 = some (1, 1, 3, 0, pmc_33) := rfl
  refine pw_ld E (pc' := 1) (st' := [.ref 126]) rfl (fun _ => rfl) ?_
  refine pw_getI I E (c := 110) (k := 2) (pc' := 4) rfl rfl rfl rfl rfl rfl (fun hf1a hf1b hf1c hf1d => ?_)
  refine pw_iret E rfl ?_
  exact ⟨rfl, ⟨_, rfl, by omega, by omega, by omega⟩⟩
set_option maxHeartbeats 4000000 in
theorem cm_31_115m {X : List (Nat × List Value)} {d : Nat} {h : pm_H} (hd : 2 ≤ d) (I : pw_I h) (c1 : Nat) (hc1 : pw_Lg c1) (c2 : Nat) (hc2 : pw_Lg c2) (n : Int) (hn1 : 0 ≤ n) (hn2 : n ≤ 20) : pw X d h 31 0 [some (.ref 131), some (.ref (16 + c1)), some (.ref (16 + c2)), some (pw_i n)] [] (fun h' v => pw_I h' ∧ pw_E [115, 117, 119] h h' ∧ (pw_g h' 115 2 = n ∧ pw_g h' 115 3 = 1) ∧ (v = .inl none)) := by
  have E : pm_ent 31 = some (4, 4, 3, 4, pmc_31) := rfl
  have E0 : pw_E [115, 117, 119] h h := pw_E.rf _ _
  refine pw_ld E (pc' := 1) (st' := [.ref 131]) rfl (fun _ => rfl) ?_
  refine pw_getR (b := 132) I E (c := 115) (k := 0) (pc' := 4) rfl rfl rfl rfl rfl rfl rfl ?_
  refine pw_ld E (pc' := 5) (st' := [.ref (16 + c1), .ref 132]) rfl (fun _ => rfl) ?_
  obtain ⟨f1l, f1h, -⟩ := pw_obj (c := 116) I rfl
  refine pw_call (m' := 25) (As := [.ref 132, .ref (16 + c1)]) (rest := []) (ls'' := [some (.ref 132), some (.ref (16 + c1))]) (by omega) E rfl (fun _ => pw_iV rfl rfl rfl rfl (pw_cellI f1h rfl)) (rfl : pm_ent 25 = some (2, 2, 2, 4, pmc_25)) rfl rfl (cm_25 (by omega) I 116 (by unfold pw_Lg; omega) c1 hc1) ?_
  rintro h2 v3 ⟨h2I, h2E, rfl⟩
  refine ⟨_, rfl, ?_⟩
  have h2F := E0.tr (h2E.wk (W' := [115, 117, 119]) (by first | rfl | simp))
  show pw X d h2 31 8 [some (.ref 131), some (.ref (16 + c1)), some (.ref (16 + c2)), some (pw_i n)] [] _
  refine pw_ld E (pc' := 9) (st' := [.ref 131]) rfl (fun _ => rfl) ?_
  refine pw_getR (b := 134) h2I E (c := 115) (k := 1) (pc' := 12) rfl rfl rfl rfl rfl rfl rfl ?_
  refine pw_ld E (pc' := 13) (st' := [.ref (16 + c2), .ref 134]) rfl (fun _ => rfl) ?_
  obtain ⟨f4l, f4h, -⟩ := pw_obj (c := 118) h2I rfl
  refine pw_call (m' := 25) (As := [.ref 134, .ref (16 + c2)]) (rest := []) (ls'' := [some (.ref 134), some (.ref (16 + c2))]) (by omega) E rfl (fun _ => pw_iV rfl rfl rfl rfl (pw_cellI f4h rfl)) (rfl : pm_ent 25 = some (2, 2, 2, 4, pmc_25)) rfl rfl (cm_25 (by omega) h2I 118 (by unfold pw_Lg; omega) c2 hc2) ?_
  rintro h5 v6 ⟨h5I, h5E, rfl⟩
  refine ⟨_, rfl, ?_⟩
  have h5F := h2F.tr (h5E.wk (W' := [115, 117, 119]) (by first | rfl | simp))
  show pw X d h5 31 16 [some (.ref 131), some (.ref (16 + c1)), some (.ref (16 + c2)), some (pw_i n)] [] _
  refine pw_ld E (pc' := 17) (st' := [.ref 131]) rfl (fun _ => rfl) ?_
  refine pw_ld E (pc' := 18) (st' := [pw_i n, .ref 131]) rfl (fun _ => rfl) ?_
  refine pw_putI h5I E (c := 115) (k := 2) (pc' := 21) rfl rfl rfl rfl (by omega) (by omega) (by omega) (by omega) rfl rfl ?_
  intro h7I h7E
  generalize h7w : pw_w h5 115 2 (pw_i n) = h7 at h7I h7E ⊢
  have h7F := h5F.tr (h7E.wk (W' := [115, 117, 119]) (by first | rfl | simp))
  refine pw_ld E (pc' := 22) (st' := [.ref 131]) rfl (fun _ => rfl) ?_
  refine pw_ld E (pc' := 23) (st' := [pw_i 1, .ref 131]) rfl (fun _ => rfl) ?_
  refine pw_putZ h7I E (c := 115) (k := 3) (pc' := 26) rfl rfl rfl rfl (by omega) (by omega) (by omega) rfl rfl ?_
  intro h8I h8E
  generalize h8w : pw_w h7 115 3 (pw_i 1) = h8 at h8I h8E ⊢
  have h8F := h7F.tr (h8E.wk (W' := [115, 117, 119]) (by first | rfl | simp))
  have he9 : pw_g h8 115 2 = pw_g h7 115 2 := by rw [← h8w]; exact pw_g_ne (by omega)
  have he10 : pw_g h7 115 2 = n := by rw [← h7w]; exact pw_g_eq (c := 115) (k := 2) h5I rfl rfl (by omega) (by omega)
  have he11 : pw_g h8 115 3 = 1 := by rw [← h8w]; exact pw_g_eq (c := 115) (k := 3) h7I rfl rfl (by omega) (by omega)
  refine pw_vret E rfl ?_
  exact ⟨h8I, h8F, ⟨by omega, rfl⟩⟩
set_option maxHeartbeats 4000000 in
theorem cm_32_115m {X : List (Nat × List Value)} {d : Nat} {h : pm_H} (hd : 1 ≤ d) (I : pw_I h)  : pw X d h 32 0 [some (.ref 131)] [] (fun h' v => h = h' ∧ ∃ a : Int, v = .inl (some (pw_i a)) ∧ 0 ≤ a ∧ a ≤ 1 ∧ (a = pw_g h 115 3)) := by
  have E : pm_ent 32 = some (1, 1, 3, 1, pmc_32) := rfl
  refine pw_ld E (pc' := 1) (st' := [.ref 131]) rfl (fun _ => rfl) ?_
  refine pw_getI I E (c := 115) (k := 3) (pc' := 4) rfl rfl rfl rfl rfl rfl (fun hf1a hf1b hf1c hf1d => ?_)
  refine pw_zret E rfl (by omega) ?_
  exact ⟨rfl, ⟨_, rfl, by omega, by omega, by omega⟩⟩
set_option maxHeartbeats 4000000 in
theorem cm_33_115m {X : List (Nat × List Value)} {d : Nat} {h : pm_H} (hd : 1 ≤ d) (I : pw_I h)  : pw X d h 33 0 [some (.ref 131)] [] (fun h' v => h = h' ∧ ∃ a : Int, v = .inl (some (pw_i a)) ∧ 0 ≤ a ∧ a ≤ 20 ∧ (a = pw_g h 115 2)) := by
  have E : pm_ent 33 = some (1, 1, 3, 0, pmc_33) := rfl
  refine pw_ld E (pc' := 1) (st' := [.ref 131]) rfl (fun _ => rfl) ?_
  refine pw_getI I E (c := 115) (k := 2) (pc' := 4) rfl rfl rfl rfl rfl rfl (fun hf1a hf1b hf1c hf1d => ?_)
  refine pw_iret E rfl ?_
  exact ⟨rfl, ⟨_, rfl, by omega, by omega, by omega⟩⟩
set_option maxHeartbeats 4000000 in
theorem cm_31_120m {X : List (Nat × List Value)} {d : Nat} {h : pm_H} (hd : 2 ≤ d) (I : pw_I h) (c1 : Nat) (hc1 : pw_Lg c1) (c2 : Nat) (hc2 : pw_Lg c2) (n : Int) (hn1 : 0 ≤ n) (hn2 : n ≤ 20) : pw X d h 31 0 [some (.ref 136), some (.ref (16 + c1)), some (.ref (16 + c2)), some (pw_i n)] [] (fun h' v => pw_I h' ∧ pw_E [120, 122, 124] h h' ∧ (pw_g h' 120 2 = n ∧ pw_g h' 120 3 = 1) ∧ (v = .inl none)) := by
  have E : pm_ent 31 = some (4, 4, 3, 4, pmc_31) := rfl
  have E0 : pw_E [120, 122, 124] h h := pw_E.rf _ _
  refine pw_ld E (pc' := 1) (st' := [.ref 136]) rfl (fun _ => rfl) ?_
  refine pw_getR (b := 137) I E (c := 120) (k := 0) (pc' := 4) rfl rfl rfl rfl rfl rfl rfl ?_
  refine pw_ld E (pc' := 5) (st' := [.ref (16 + c1), .ref 137]) rfl (fun _ => rfl) ?_
  obtain ⟨f1l, f1h, -⟩ := pw_obj (c := 121) I rfl
  refine pw_call (m' := 25) (As := [.ref 137, .ref (16 + c1)]) (rest := []) (ls'' := [some (.ref 137), some (.ref (16 + c1))]) (by omega) E rfl (fun _ => pw_iV rfl rfl rfl rfl (pw_cellI f1h rfl)) (rfl : pm_ent 25 = some (2, 2, 2, 4, pmc_25)) rfl rfl (cm_25 (by omega) I 121 (by unfold pw_Lg; omega) c1 hc1) ?_
  rintro h2 v3 ⟨h2I, h2E, rfl⟩
  refine ⟨_, rfl, ?_⟩
  have h2F := E0.tr (h2E.wk (W' := [120, 122, 124]) (by first | rfl | simp))
  show pw X d h2 31 8 [some (.ref 136), some (.ref (16 + c1)), some (.ref (16 + c2)), some (pw_i n)] [] _
  refine pw_ld E (pc' := 9) (st' := [.ref 136]) rfl (fun _ => rfl) ?_
  refine pw_getR (b := 139) h2I E (c := 120) (k := 1) (pc' := 12) rfl rfl rfl rfl rfl rfl rfl ?_
  refine pw_ld E (pc' := 13) (st' := [.ref (16 + c2), .ref 139]) rfl (fun _ => rfl) ?_
  obtain ⟨f4l, f4h, -⟩ := pw_obj (c := 123) h2I rfl
  refine pw_call (m' := 25) (As := [.ref 139, .ref (16 + c2)]) (rest := []) (ls'' := [some (.ref 139), some (.ref (16 + c2))]) (by omega) E rfl (fun _ => pw_iV rfl rfl rfl rfl (pw_cellI f4h rfl)) (rfl : pm_ent 25 = some (2, 2, 2, 4, pmc_25)) rfl rfl (cm_25 (by omega) h2I 123 (by unfold pw_Lg; omega) c2 hc2) ?_
  rintro h5 v6 ⟨h5I, h5E, rfl⟩
  refine ⟨_, rfl, ?_⟩
  have h5F := h2F.tr (h5E.wk (W' := [120, 122, 124]) (by first | rfl | simp))
  show pw X d h5 31 16 [some (.ref 136), some (.ref (16 + c1)), some (.ref (16 + c2)), some (pw_i n)] [] _
  refine pw_ld E (pc' := 17) (st' := [.ref 136]) rfl (fun _ => rfl) ?_
  refine pw_ld E (pc' := 18) (st' := [pw_i n, .ref 136]) rfl (fun _ => rfl) ?_
  refine pw_putI h5I E (c := 120) (k := 2) (pc' := 21) rfl rfl rfl rfl (by omega) (by omega) (by omega) (by omega) rfl rfl ?_
  intro h7I h7E
  generalize h7w : pw_w h5 120 2 (pw_i n) = h7 at h7I h7E ⊢
  have h7F := h5F.tr (h7E.wk (W' := [120, 122, 124]) (by first | rfl | simp))
  refine pw_ld E (pc' := 22) (st' := [.ref 136]) rfl (fun _ => rfl) ?_
  refine pw_ld E (pc' := 23) (st' := [pw_i 1, .ref 136]) rfl (fun _ => rfl) ?_
  refine pw_putZ h7I E (c := 120) (k := 3) (pc' := 26) rfl rfl rfl rfl (by omega) (by omega) (by omega) rfl rfl ?_
  intro h8I h8E
  generalize h8w : pw_w h7 120 3 (pw_i 1) = h8 at h8I h8E ⊢
  have h8F := h7F.tr (h8E.wk (W' := [120, 122, 124]) (by first | rfl | simp))
  have he9 : pw_g h8 120 2 = pw_g h7 120 2 := by rw [← h8w]; exact pw_g_ne (by omega)
  have he10 : pw_g h7 120 2 = n := by rw [← h7w]; exact pw_g_eq (c := 120) (k := 2) h5I rfl rfl (by omega) (by omega)
  have he11 : pw_g h8 120 3 = 1 := by rw [← h8w]; exact pw_g_eq (c := 120) (k := 3) h7I rfl rfl (by omega) (by omega)
  refine pw_vret E rfl ?_
  exact ⟨h8I, h8F, ⟨by omega, rfl⟩⟩
set_option maxHeartbeats 4000000 in
theorem cm_32_120m {X : List (Nat × List Value)} {d : Nat} {h : pm_H} (hd : 1 ≤ d) (I : pw_I h)  : pw X d h 32 0 [some (.ref 136)] [] (fun h' v => h = h' ∧ ∃ a : Int, v = .inl (some (pw_i a)) ∧ 0 ≤ a ∧ a ≤ 1 ∧ (a = pw_g h 120 3)) := by
  have E : pm_ent 32 = some (1, 1, 3, 1, pmc_32) := rfl
  refine pw_ld E (pc' := 1) (st' := [.ref 136]) rfl (fun _ => rfl) ?_
  refine pw_getI I E (c := 120) (k := 3) (pc' := 4) rfl rfl rfl rfl rfl rfl (fun hf1a hf1b hf1c hf1d => ?_)
  refine pw_zret E rfl (by omega) ?_
  exact ⟨rfl, ⟨_, rfl, by omega, by omega, by omega⟩⟩
set_option maxHeartbeats 4000000 in
theorem cm_33_120m {X : List (Nat × List Value)} {d : Nat} {h : pm_H} (hd : 1 ≤ d) (I : pw_I h)  : pw X d h 33 0 [some (.ref 136)] [] (fun h' v => h = h' ∧ ∃ a : Int, v = .inl (some (pw_i a)) ∧ 0 ≤ a ∧ a ≤ 20 ∧ (a = pw_g h 120 2)) := by
  have E : pm_ent 33 = some (1, 1, 3, 0, pmc_33) := rfl
  refine pw_ld E (pc' := 1) (st' := [.ref 136]) rfl (fun _ => rfl) ?_
  refine pw_getI I E (c := 120) (k := 2) (pc' := 4) rfl rfl rfl rfl rfl rfl (fun hf1a hf1b hf1c hf1d => ?_)
  refine pw_iret E rfl ?_
  exact ⟨rfl, ⟨_, rfl, by omega, by omega, by omega⟩⟩
set_option maxHeartbeats 4000000 in
theorem cm_167_m {X : List (Nat × List Value)} {d : Nat} {h : pm_H} (hd : 3 ≤ d) (I : pw_I h) (mk : Int) (hmk1 : (-2147483648) ≤ mk) (hmk2 : mk ≤ 2147483647) (z : Int) (hz1 : 0 ≤ z) (hz2 : z ≤ 1) : pw X d h 167 0 [some (.ref 16), some (pw_i mk), some (pw_i z)] [] (fun h' v => pw_I h' ∧ pw_E [11, 13, 100, 105, 107, 109, 110, 112, 114, 115, 117, 119, 120, 122, 124] h h' ∧ ∃ a : Int, v = .inl (some (pw_i a)) ∧ 0 ≤ a ∧ a ≤ 1 ∧ (pw_MT (pw_g h 100 3) (pw_g h' 100 3) (pw_om h) (pw_lm h) (pw_om h') (pw_lm h') mk z a)) := by
  have E : pm_ent 167 = some (3, 3, 11, 1, pmc_167) := rfl
  have E0 : pw_E [11, 13, 100, 105, 107, 109, 110, 112, 114, 115, 117, 119, 120, 122, 124] h h := pw_E.rf _ _
  refine pw_ld E (pc' := 1) (st' := [pw_i mk]) rfl (fun _ => rfl) ?_
  refine pw_ld E (pc' := 2) (st' := [pw_i 0, pw_i mk]) rfl (fun _ => rfl) ?_
  refine pw_ld E (pc' := 3) (st' := [pw_i 3, pw_i 0, pw_i mk]) rfl (fun _ => rfl) ?_
  refine pw_call (m' := 121) (As := [pw_i mk, pw_i 0, pw_i 3]) (rest := []) (ls'' := [some (pw_i mk), some (pw_i 0), some (pw_i 3)]) (by omega) E rfl (fun _ => pw_iS rfl rfl rfl) (rfl : pm_ent 121 = some (3, 3, 11, 1, pmc_121)) rfl rfl (cm_121 (by omega) I (mk) (by omega) (by omega) (0) (by omega) (by omega) (3) (by omega) (by omega)) ?_
  rintro u2 v1 ⟨rfl, x3, rfl, hx3a, hx3b, hx3r⟩
  refine ⟨_, rfl, ?_⟩
  show pw X d h 167 6 [some (.ref 16), some (pw_i mk), some (pw_i z)] [pw_i x3] _
  have hx3r : (x3 = 1 ∧ 0 ≤ mk ∧ mk ≤ 3) ∨ (x3 = 0 ∧ ¬ (0 ≤ mk ∧ mk ≤ 3)) := hx3r
  rcases (by omega : x3 = 1 ∨ x3 = 0) with hb4 | hb4
  · have hb4 : x3 = 1 := by omega
    refine pw_if E (pc' := 11) rfl (by decide) (by omega) (by omega) ?_ ?_
    · intro hc5
      have hc5 : x3 ≠ (0 : Int) := hc5
      refine pw_ld E (pc' := 12) (st' := [pw_i z]) rfl (fun _ => rfl) ?_
      refine pw_if E (pc' := 41) rfl (by decide) (by omega) (by omega) ?_ ?_
      · intro hc6
        have hc6 : z ≠ (0 : Int) := hc6
        refine pw_ld E (pc' := 42) (st' := [.ref 16]) rfl (fun _ => rfl) ?_
        refine pw_getR (b := 120) I E (c := 0) (k := 19) (pc' := 45) rfl rfl rfl rfl rfl rfl rfl ?_
        refine pw_ld E (pc' := 46) (st' := [pw_i mk, .ref 120]) rfl (fun _ => rfl) ?_
        rcases (by omega : mk = 0 ∨ mk = 1 ∨ mk = 2 ∨ mk = 3) with hj7 | hj7 | hj7 | hj7
        · refine pw_aald (b := 121) I E (c := 104) (pc' := 47) rfl rfl (by decide) rfl (by decide) (by omega) (by omega) (by rw [hj7]; rfl) rfl ?_
          obtain ⟨f8l, f8h, -⟩ := pw_obj (c := 105) I rfl
          refine pw_call (m' := 32) (As := [.ref 121]) (rest := []) (ls'' := [some (.ref 121)]) (by omega) E rfl (fun _ => pw_iV rfl rfl rfl rfl (pw_cellI f8h rfl)) (rfl : pm_ent 32 = some (1, 1, 3, 1, pmc_32)) rfl rfl (cm_32_105m (by omega) I ) ?_
          rintro u10 v9 ⟨rfl, x11, rfl, hx11a, hx11b, hx11r⟩
          refine ⟨_, rfl, ?_⟩
          show pw X d h 167 50 [some (.ref 16), some (pw_i mk), some (pw_i z)] [pw_i x11] _
          have hx11r : x11 = pw_g h 105 3 := hx11r
          rcases (by omega : x11 = 1 ∨ x11 = 0) with hb12 | hb12
          · have hb12 : x11 = 1 := by omega
            refine pw_if E (pc' := 72) rfl (by decide) (by omega) (by omega) ?_ ?_
            · intro hc13
              have hc13 : x11 = (0 : Int) := hc13
              exfalso; omega
            · intro hc14
              have hc14 : ¬ (x11 = (0 : Int)) := hc14
              refine pw_ld E (pc' := 54) (st' := [.ref 16]) rfl (fun _ => rfl) ?_
              refine pw_getR (b := 116) I E (c := 0) (k := 18) (pc' := 57) rfl rfl rfl rfl rfl rfl rfl ?_
              obtain ⟨f15l, f15h, -⟩ := pw_obj (c := 100) I rfl
              refine pw_call (m' := 40) (As := [.ref 116]) (rest := []) (ls'' := [some (.ref 116)]) (by omega) E rfl (fun _ => pw_iV rfl rfl rfl rfl (pw_cellI f15h rfl)) (rfl : pm_ent 40 = some (1, 1, 4, 0, pmc_40)) rfl rfl (cm_40_m (by omega) I ) ?_
              rintro u17 v16 ⟨rfl, x18, rfl, hx18a, hx18b, hx18r⟩
              refine ⟨_, rfl, ?_⟩
              show pw X d h 167 60 [some (.ref 16), some (pw_i mk), some (pw_i z)] [pw_i x18] _
              have hx18r : x18 = pw_g h 100 3 := hx18r
              refine pw_ld E (pc' := 61) (st' := [.ref 16, pw_i x18]) rfl (fun _ => rfl) ?_
              refine pw_getR (b := 120) I E (c := 0) (k := 19) (pc' := 64) rfl rfl rfl rfl rfl rfl rfl ?_
              refine pw_ld E (pc' := 65) (st' := [pw_i mk, .ref 120, pw_i x18]) rfl (fun _ => rfl) ?_
              refine pw_aald (b := 121) I E (c := 104) (pc' := 66) rfl rfl (by decide) rfl (by decide) (by omega) (by omega) (by rw [hj7]; rfl) rfl ?_
              obtain ⟨f20l, f20h, -⟩ := pw_obj (c := 105) I rfl
              refine pw_call (m' := 33) (As := [.ref 121]) (rest := [pw_i x18]) (ls'' := [some (.ref 121)]) (by omega) E rfl (fun _ => pw_iV rfl rfl rfl rfl (pw_cellI f20h rfl)) (rfl : pm_ent 33 = some (1, 1, 3, 0, pmc_33)) rfl rfl (cm_33_105m (by omega) I ) ?_
              rintro u22 v21 ⟨rfl, x23, rfl, hx23a, hx23b, hx23r⟩
              refine ⟨_, rfl, ?_⟩
              show pw X d h 167 69 [some (.ref 16), some (pw_i mk), some (pw_i z)] [pw_i x23, pw_i x18] _
              have hx23r : x23 = pw_g h 105 2 := hx23r
              refine pw_if2 E (pc' := 74) rfl (by decide) (by omega) (by omega) (by omega) (by omega) ?_ ?_
              · intro hc24
                have hc24 : x23 ≤ x18 := hc24
                refine pw_ld E (pc' := 75) (st' := [.ref 16]) rfl (fun _ => rfl) ?_
                refine pw_getR (b := 120) I E (c := 0) (k := 19) (pc' := 78) rfl rfl rfl rfl rfl rfl rfl ?_
                refine pw_ld E (pc' := 79) (st' := [pw_i mk, .ref 120]) rfl (fun _ => rfl) ?_
                refine pw_aald (b := 121) I E (c := 104) (pc' := 80) rfl rfl (by decide) rfl (by decide) (by omega) (by omega) (by rw [hj7]; rfl) rfl ?_
                refine pw_ld E (pc' := 81) (st' := [.ref 16, .ref 121]) rfl (fun _ => rfl) ?_
                refine pw_getR (b := 26) I E (c := 0) (k := 2) (pc' := 84) rfl rfl rfl rfl rfl rfl rfl ?_
                refine pw_ld E (pc' := 85) (st' := [.ref 16, .ref 26, .ref 121]) rfl (fun _ => rfl) ?_
                refine pw_getR (b := 28) I E (c := 0) (k := 3) (pc' := 88) rfl rfl rfl rfl rfl rfl rfl ?_
                obtain ⟨f26l, f26h, -⟩ := pw_obj (c := 105) I rfl
                refine pw_call (m' := 34) (As := [.ref 121, .ref 26, .ref 28]) (rest := []) (ls'' := [some (.ref 121), some (.ref 26), some (.ref 28)]) (by omega) E rfl (fun _ => pw_iV rfl rfl rfl rfl (pw_cellI f26h rfl)) (rfl : pm_ent 34 = some (3, 3, 3, 4, pmc_34)) rfl rfl (cm_34_105 (by omega) I 10 (by unfold pw_Lg; omega) 12 (by unfold pw_Lg; omega)) ?_
                rintro h27 v28 ⟨h27I, h27E, rfl⟩
                refine ⟨_, rfl, ?_⟩
                have h27F := E0.tr (h27E.wk (W' := [11, 13, 100, 105, 107, 109, 110, 112, 114, 115, 117, 119, 120, 122, 124]) (by first | rfl | simp))
                show pw X d h27 167 91 [some (.ref 16), some (pw_i mk), some (pw_i z)] [] _
                refine pw_ld E (pc' := 92) (st' := [.ref 16]) rfl (fun _ => rfl) ?_
                refine pw_getR (b := 116) h27I E (c := 0) (k := 18) (pc' := 95) rfl rfl rfl rfl rfl rfl rfl ?_
                refine pw_ld E (pc' := 96) (st' := [.ref 16, .ref 116]) rfl (fun _ => rfl) ?_
                refine pw_getR (b := 120) h27I E (c := 0) (k := 19) (pc' := 99) rfl rfl rfl rfl rfl rfl rfl ?_
                refine pw_ld E (pc' := 100) (st' := [pw_i mk, .ref 120, .ref 116]) rfl (fun _ => rfl) ?_
                refine pw_aald (b := 121) h27I E (c := 104) (pc' := 101) rfl rfl (by decide) rfl (by decide) (by omega) (by omega) (by rw [hj7]; rfl) rfl ?_
                obtain ⟨f30l, f30h, -⟩ := pw_obj (c := 105) h27I rfl
                refine pw_call (m' := 33) (As := [.ref 121]) (rest := [.ref 116]) (ls'' := [some (.ref 121)]) (by omega) E rfl (fun _ => pw_iV rfl rfl rfl rfl (pw_cellI f30h rfl)) (rfl : pm_ent 33 = some (1, 1, 3, 0, pmc_33)) rfl rfl (cm_33_105m (by omega) h27I ) ?_
                rintro u32 v31 ⟨rfl, x33, rfl, hx33a, hx33b, hx33r⟩
                refine ⟨_, rfl, ?_⟩
                show pw X d h27 167 104 [some (.ref 16), some (pw_i mk), some (pw_i z)] [pw_i x33, .ref 116] _
                have hx33r : x33 = pw_g h27 105 2 := hx33r
                obtain ⟨f34l, f34h, -⟩ := pw_obj (c := 100) h27I rfl
                refine pw_call (m' := 41) (As := [.ref 116, pw_i x33]) (rest := []) (ls'' := [some (.ref 116), some (pw_i x33)]) (by omega) E rfl (fun _ => pw_iV rfl rfl rfl rfl (pw_cellI f34h rfl)) (rfl : pm_ent 41 = some (2, 2, 4, 4, pmc_41)) rfl rfl (cm_41_m (by omega) h27I (x33) (by omega) (by omega)) ?_
                rintro h35 v36 ⟨h35I, h35E, hqcutTo, rfl⟩
                refine ⟨_, rfl, ?_⟩
                have h35F := h27F.tr (h35E.wk (W' := [11, 13, 100, 105, 107, 109, 110, 112, 114, 115, 117, 119, 120, 122, 124]) (by first | rfl | simp))
                show pw X d h35 167 107 [some (.ref 16), some (pw_i mk), some (pw_i z)] [] _
                refine pw_ld E (pc' := 108) (st' := [pw_i 1]) rfl (fun _ => rfl) ?_
                refine pw_zret E rfl (by omega) ?_
                have hcc : pw_g h35 100 3 = min (pw_g h27 100 3) _ := hqcutTo
                have h100 : pw_g h27 100 3 = pw_g h 100 3 := (pw_Eg (c := 100) I h27E rfl rfl 3 : pw_g h27 100 3 = pw_g h 100 3)
                have hf0 : pw_g h27 105 2 = pw_g h 105 2 := (pw_Eg (c := 105) I h27E rfl rfl 2 : pw_g h27 105 2 = pw_g h 105 2)
                have hf1 : pw_g h27 110 2 = pw_g h 110 2 := (pw_Eg (c := 110) I h27E rfl rfl 2 : pw_g h27 110 2 = pw_g h 110 2)
                have hf2 : pw_g h27 115 2 = pw_g h 115 2 := (pw_Eg (c := 115) I h27E rfl rfl 2 : pw_g h27 115 2 = pw_g h 115 2)
                have hf3 : pw_g h27 120 2 = pw_g h 120 2 := (pw_Eg (c := 120) I h27E rfl rfl 2 : pw_g h27 120 2 = pw_g h 120 2)
                have hM : pw_MT (pw_g h 100 3) (pw_g h35 100 3) (pw_om h) (pw_lm h) (pw_om h35) (pw_lm h35) mk z 1 := by
                  rcases (by omega : mk = 0 ∨ mk = 1 ∨ mk = 2 ∨ mk = 3) with rfl | rfl | rfl | rfl
                  · first
                    | exact Or.inr (Or.inr (Or.inr ⟨by omega, by omega, by omega, (by show pw_g h 105 3 ≠ 0; omega), (by show pw_g h 105 2 ≤ pw_g h 100 3; omega), rfl, (by show pw_g h35 100 3 = pw_g h 105 2; omega), (pw_i4 ⟨((pw_Eg (c := 105) h27I h35E rfl rfl 2 : pw_g h35 105 2 = pw_g h27 105 2)).trans (pw_Eg (c := 105) I h27E rfl rfl 2 : pw_g h27 105 2 = pw_g h 105 2), ((pw_Eg (c := 105) h27I h35E rfl rfl 3 : pw_g h35 105 3 = pw_g h27 105 3)).trans (pw_Eg (c := 105) I h27E rfl rfl 3 : pw_g h27 105 3 = pw_g h 105 3)⟩ ⟨((pw_Eg (c := 110) h27I h35E rfl rfl 2 : pw_g h35 110 2 = pw_g h27 110 2)).trans (pw_Eg (c := 110) I h27E rfl rfl 2 : pw_g h27 110 2 = pw_g h 110 2), ((pw_Eg (c := 110) h27I h35E rfl rfl 3 : pw_g h35 110 3 = pw_g h27 110 3)).trans (pw_Eg (c := 110) I h27E rfl rfl 3 : pw_g h27 110 3 = pw_g h 110 3)⟩ ⟨((pw_Eg (c := 115) h27I h35E rfl rfl 2 : pw_g h35 115 2 = pw_g h27 115 2)).trans (pw_Eg (c := 115) I h27E rfl rfl 2 : pw_g h27 115 2 = pw_g h 115 2), ((pw_Eg (c := 115) h27I h35E rfl rfl 3 : pw_g h35 115 3 = pw_g h27 115 3)).trans (pw_Eg (c := 115) I h27E rfl rfl 3 : pw_g h27 115 3 = pw_g h 115 3)⟩ ⟨((pw_Eg (c := 120) h27I h35E rfl rfl 2 : pw_g h35 120 2 = pw_g h27 120 2)).trans (pw_Eg (c := 120) I h27E rfl rfl 2 : pw_g h27 120 2 = pw_g h 120 2), ((pw_Eg (c := 120) h27I h35E rfl rfl 3 : pw_g h35 120 3 = pw_g h27 120 3)).trans (pw_Eg (c := 120) I h27E rfl rfl 3 : pw_g h27 120 3 = pw_g h 120 3)⟩)⟩))
                    | (exfalso; omega)
                  · first
                    | exact Or.inr (Or.inr (Or.inr ⟨by omega, by omega, by omega, (by show pw_g h 110 3 ≠ 0; omega), (by show pw_g h 110 2 ≤ pw_g h 100 3; omega), rfl, (by show pw_g h35 100 3 = pw_g h 110 2; omega), (pw_i4 ⟨((pw_Eg (c := 105) h27I h35E rfl rfl 2 : pw_g h35 105 2 = pw_g h27 105 2)).trans (pw_Eg (c := 105) I h27E rfl rfl 2 : pw_g h27 105 2 = pw_g h 105 2), ((pw_Eg (c := 105) h27I h35E rfl rfl 3 : pw_g h35 105 3 = pw_g h27 105 3)).trans (pw_Eg (c := 105) I h27E rfl rfl 3 : pw_g h27 105 3 = pw_g h 105 3)⟩ ⟨((pw_Eg (c := 110) h27I h35E rfl rfl 2 : pw_g h35 110 2 = pw_g h27 110 2)).trans (pw_Eg (c := 110) I h27E rfl rfl 2 : pw_g h27 110 2 = pw_g h 110 2), ((pw_Eg (c := 110) h27I h35E rfl rfl 3 : pw_g h35 110 3 = pw_g h27 110 3)).trans (pw_Eg (c := 110) I h27E rfl rfl 3 : pw_g h27 110 3 = pw_g h 110 3)⟩ ⟨((pw_Eg (c := 115) h27I h35E rfl rfl 2 : pw_g h35 115 2 = pw_g h27 115 2)).trans (pw_Eg (c := 115) I h27E rfl rfl 2 : pw_g h27 115 2 = pw_g h 115 2), ((pw_Eg (c := 115) h27I h35E rfl rfl 3 : pw_g h35 115 3 = pw_g h27 115 3)).trans (pw_Eg (c := 115) I h27E rfl rfl 3 : pw_g h27 115 3 = pw_g h 115 3)⟩ ⟨((pw_Eg (c := 120) h27I h35E rfl rfl 2 : pw_g h35 120 2 = pw_g h27 120 2)).trans (pw_Eg (c := 120) I h27E rfl rfl 2 : pw_g h27 120 2 = pw_g h 120 2), ((pw_Eg (c := 120) h27I h35E rfl rfl 3 : pw_g h35 120 3 = pw_g h27 120 3)).trans (pw_Eg (c := 120) I h27E rfl rfl 3 : pw_g h27 120 3 = pw_g h 120 3)⟩)⟩))
                    | (exfalso; omega)
                  · first
                    | exact Or.inr (Or.inr (Or.inr ⟨by omega, by omega, by omega, (by show pw_g h 115 3 ≠ 0; omega), (by show pw_g h 115 2 ≤ pw_g h 100 3; omega), rfl, (by show pw_g h35 100 3 = pw_g h 115 2; omega), (pw_i4 ⟨((pw_Eg (c := 105) h27I h35E rfl rfl 2 : pw_g h35 105 2 = pw_g h27 105 2)).trans (pw_Eg (c := 105) I h27E rfl rfl 2 : pw_g h27 105 2 = pw_g h 105 2), ((pw_Eg (c := 105) h27I h35E rfl rfl 3 : pw_g h35 105 3 = pw_g h27 105 3)).trans (pw_Eg (c := 105) I h27E rfl rfl 3 : pw_g h27 105 3 = pw_g h 105 3)⟩ ⟨((pw_Eg (c := 110) h27I h35E rfl rfl 2 : pw_g h35 110 2 = pw_g h27 110 2)).trans (pw_Eg (c := 110) I h27E rfl rfl 2 : pw_g h27 110 2 = pw_g h 110 2), ((pw_Eg (c := 110) h27I h35E rfl rfl 3 : pw_g h35 110 3 = pw_g h27 110 3)).trans (pw_Eg (c := 110) I h27E rfl rfl 3 : pw_g h27 110 3 = pw_g h 110 3)⟩ ⟨((pw_Eg (c := 115) h27I h35E rfl rfl 2 : pw_g h35 115 2 = pw_g h27 115 2)).trans (pw_Eg (c := 115) I h27E rfl rfl 2 : pw_g h27 115 2 = pw_g h 115 2), ((pw_Eg (c := 115) h27I h35E rfl rfl 3 : pw_g h35 115 3 = pw_g h27 115 3)).trans (pw_Eg (c := 115) I h27E rfl rfl 3 : pw_g h27 115 3 = pw_g h 115 3)⟩ ⟨((pw_Eg (c := 120) h27I h35E rfl rfl 2 : pw_g h35 120 2 = pw_g h27 120 2)).trans (pw_Eg (c := 120) I h27E rfl rfl 2 : pw_g h27 120 2 = pw_g h 120 2), ((pw_Eg (c := 120) h27I h35E rfl rfl 3 : pw_g h35 120 3 = pw_g h27 120 3)).trans (pw_Eg (c := 120) I h27E rfl rfl 3 : pw_g h27 120 3 = pw_g h 120 3)⟩)⟩))
                    | (exfalso; omega)
                  · first
                    | exact Or.inr (Or.inr (Or.inr ⟨by omega, by omega, by omega, (by show pw_g h 120 3 ≠ 0; omega), (by show pw_g h 120 2 ≤ pw_g h 100 3; omega), rfl, (by show pw_g h35 100 3 = pw_g h 120 2; omega), (pw_i4 ⟨((pw_Eg (c := 105) h27I h35E rfl rfl 2 : pw_g h35 105 2 = pw_g h27 105 2)).trans (pw_Eg (c := 105) I h27E rfl rfl 2 : pw_g h27 105 2 = pw_g h 105 2), ((pw_Eg (c := 105) h27I h35E rfl rfl 3 : pw_g h35 105 3 = pw_g h27 105 3)).trans (pw_Eg (c := 105) I h27E rfl rfl 3 : pw_g h27 105 3 = pw_g h 105 3)⟩ ⟨((pw_Eg (c := 110) h27I h35E rfl rfl 2 : pw_g h35 110 2 = pw_g h27 110 2)).trans (pw_Eg (c := 110) I h27E rfl rfl 2 : pw_g h27 110 2 = pw_g h 110 2), ((pw_Eg (c := 110) h27I h35E rfl rfl 3 : pw_g h35 110 3 = pw_g h27 110 3)).trans (pw_Eg (c := 110) I h27E rfl rfl 3 : pw_g h27 110 3 = pw_g h 110 3)⟩ ⟨((pw_Eg (c := 115) h27I h35E rfl rfl 2 : pw_g h35 115 2 = pw_g h27 115 2)).trans (pw_Eg (c := 115) I h27E rfl rfl 2 : pw_g h27 115 2 = pw_g h 115 2), ((pw_Eg (c := 115) h27I h35E rfl rfl 3 : pw_g h35 115 3 = pw_g h27 115 3)).trans (pw_Eg (c := 115) I h27E rfl rfl 3 : pw_g h27 115 3 = pw_g h 115 3)⟩ ⟨((pw_Eg (c := 120) h27I h35E rfl rfl 2 : pw_g h35 120 2 = pw_g h27 120 2)).trans (pw_Eg (c := 120) I h27E rfl rfl 2 : pw_g h27 120 2 = pw_g h 120 2), ((pw_Eg (c := 120) h27I h35E rfl rfl 3 : pw_g h35 120 3 = pw_g h27 120 3)).trans (pw_Eg (c := 120) I h27E rfl rfl 3 : pw_g h27 120 3 = pw_g h 120 3)⟩)⟩))
                    | (exfalso; omega)
                exact ⟨h35I, h35F, ⟨_, rfl, by omega, by omega, hM⟩⟩
              · intro hc37
                have hc37 : ¬ (x23 ≤ x18) := hc37
                refine pw_ld E (pc' := 73) (st' := [pw_i 0]) rfl (fun _ => rfl) ?_
                refine pw_zret E rfl (by omega) ?_
                have hsame : ∀ i : Nat, i < 4 → pw_om h i = pw_om h i ∧ pw_lm h i = pw_lm h i := fun _ _ => ⟨rfl, rfl⟩
                have hM : pw_MT (pw_g h 100 3) (pw_g h 100 3) (pw_om h) (pw_lm h) (pw_om h) (pw_lm h) mk z 0 := by
                  rcases (by omega : ¬ (0 ≤ mk ∧ mk ≤ 3) ∨ mk = 0 ∨ mk = 1 ∨ mk = 2 ∨ mk = 3) with hq | rfl | rfl | rfl | rfl
                  · exact Or.inl ⟨hq, rfl, rfl, hsame⟩
                  · exact Or.inr (Or.inr (Or.inl ⟨by omega, by omega, by omega, (by show pw_g h 105 3 = 0 ∨ pw_g h 100 3 < pw_g h 105 2; omega), rfl, rfl, hsame⟩))
                  · exact Or.inr (Or.inr (Or.inl ⟨by omega, by omega, by omega, (by show pw_g h 110 3 = 0 ∨ pw_g h 100 3 < pw_g h 110 2; omega), rfl, rfl, hsame⟩))
                  · exact Or.inr (Or.inr (Or.inl ⟨by omega, by omega, by omega, (by show pw_g h 115 3 = 0 ∨ pw_g h 100 3 < pw_g h 115 2; omega), rfl, rfl, hsame⟩))
                  · exact Or.inr (Or.inr (Or.inl ⟨by omega, by omega, by omega, (by show pw_g h 120 3 = 0 ∨ pw_g h 100 3 < pw_g h 120 2; omega), rfl, rfl, hsame⟩))
                exact ⟨I, E0, ⟨_, rfl, by omega, by omega, hM⟩⟩
          · have hb38 : x11 = 0 := by omega
            refine pw_if E (pc' := 72) rfl (by decide) (by omega) (by omega) ?_ ?_
            · intro hc39
              have hc39 : x11 = (0 : Int) := hc39
              refine pw_ld E (pc' := 73) (st' := [pw_i 0]) rfl (fun _ => rfl) ?_
              refine pw_zret E rfl (by omega) ?_
              have hsame : ∀ i : Nat, i < 4 → pw_om h i = pw_om h i ∧ pw_lm h i = pw_lm h i := fun _ _ => ⟨rfl, rfl⟩
              have hM : pw_MT (pw_g h 100 3) (pw_g h 100 3) (pw_om h) (pw_lm h) (pw_om h) (pw_lm h) mk z 0 := by
                rcases (by omega : ¬ (0 ≤ mk ∧ mk ≤ 3) ∨ mk = 0 ∨ mk = 1 ∨ mk = 2 ∨ mk = 3) with hq | rfl | rfl | rfl | rfl
                · exact Or.inl ⟨hq, rfl, rfl, hsame⟩
                · exact Or.inr (Or.inr (Or.inl ⟨by omega, by omega, by omega, (by show pw_g h 105 3 = 0 ∨ pw_g h 100 3 < pw_g h 105 2; omega), rfl, rfl, hsame⟩))
                · exact Or.inr (Or.inr (Or.inl ⟨by omega, by omega, by omega, (by show pw_g h 110 3 = 0 ∨ pw_g h 100 3 < pw_g h 110 2; omega), rfl, rfl, hsame⟩))
                · exact Or.inr (Or.inr (Or.inl ⟨by omega, by omega, by omega, (by show pw_g h 115 3 = 0 ∨ pw_g h 100 3 < pw_g h 115 2; omega), rfl, rfl, hsame⟩))
                · exact Or.inr (Or.inr (Or.inl ⟨by omega, by omega, by omega, (by show pw_g h 120 3 = 0 ∨ pw_g h 100 3 < pw_g h 120 2; omega), rfl, rfl, hsame⟩))
              exact ⟨I, E0, ⟨_, rfl, by omega, by omega, hM⟩⟩
            · intro hc40
              have hc40 : ¬ (x11 = (0 : Int)) := hc40
              exfalso; omega
        · refine pw_aald (b := 126) I E (c := 104) (pc' := 47) rfl rfl (by decide) rfl (by decide) (by omega) (by omega) (by rw [hj7]; rfl) rfl ?_
          obtain ⟨f41l, f41h, -⟩ := pw_obj (c := 110) I rfl
          refine pw_call (m' := 32) (As := [.ref 126]) (rest := []) (ls'' := [some (.ref 126)]) (by omega) E rfl (fun _ => pw_iV rfl rfl rfl rfl (pw_cellI f41h rfl)) (rfl : pm_ent 32 = some (1, 1, 3, 1, pmc_32)) rfl rfl (cm_32_110m (by omega) I ) ?_
          rintro u43 v42 ⟨rfl, x44, rfl, hx44a, hx44b, hx44r⟩
          refine ⟨_, rfl, ?_⟩
          show pw X d h 167 50 [some (.ref 16), some (pw_i mk), some (pw_i z)] [pw_i x44] _
          have hx44r : x44 = pw_g h 110 3 := hx44r
          rcases (by omega : x44 = 1 ∨ x44 = 0) with hb45 | hb45
          · have hb45 : x44 = 1 := by omega
            refine pw_if E (pc' := 72) rfl (by decide) (by omega) (by omega) ?_ ?_
            · intro hc46
              have hc46 : x44 = (0 : Int) := hc46
              exfalso; omega
            · intro hc47
              have hc47 : ¬ (x44 = (0 : Int)) := hc47
              refine pw_ld E (pc' := 54) (st' := [.ref 16]) rfl (fun _ => rfl) ?_
              refine pw_getR (b := 116) I E (c := 0) (k := 18) (pc' := 57) rfl rfl rfl rfl rfl rfl rfl ?_
              obtain ⟨f48l, f48h, -⟩ := pw_obj (c := 100) I rfl
              refine pw_call (m' := 40) (As := [.ref 116]) (rest := []) (ls'' := [some (.ref 116)]) (by omega) E rfl (fun _ => pw_iV rfl rfl rfl rfl (pw_cellI f48h rfl)) (rfl : pm_ent 40 = some (1, 1, 4, 0, pmc_40)) rfl rfl (cm_40_m (by omega) I ) ?_
              rintro u50 v49 ⟨rfl, x51, rfl, hx51a, hx51b, hx51r⟩
              refine ⟨_, rfl, ?_⟩
              show pw X d h 167 60 [some (.ref 16), some (pw_i mk), some (pw_i z)] [pw_i x51] _
              have hx51r : x51 = pw_g h 100 3 := hx51r
              refine pw_ld E (pc' := 61) (st' := [.ref 16, pw_i x51]) rfl (fun _ => rfl) ?_
              refine pw_getR (b := 120) I E (c := 0) (k := 19) (pc' := 64) rfl rfl rfl rfl rfl rfl rfl ?_
              refine pw_ld E (pc' := 65) (st' := [pw_i mk, .ref 120, pw_i x51]) rfl (fun _ => rfl) ?_
              refine pw_aald (b := 126) I E (c := 104) (pc' := 66) rfl rfl (by decide) rfl (by decide) (by omega) (by omega) (by rw [hj7]; rfl) rfl ?_
              obtain ⟨f53l, f53h, -⟩ := pw_obj (c := 110) I rfl
              refine pw_call (m' := 33) (As := [.ref 126]) (rest := [pw_i x51]) (ls'' := [some (.ref 126)]) (by omega) E rfl (fun _ => pw_iV rfl rfl rfl rfl (pw_cellI f53h rfl)) (rfl : pm_ent 33 = some (1, 1, 3, 0, pmc_33)) rfl rfl (cm_33_110m (by omega) I ) ?_
              rintro u55 v54 ⟨rfl, x56, rfl, hx56a, hx56b, hx56r⟩
              refine ⟨_, rfl, ?_⟩
              show pw X d h 167 69 [some (.ref 16), some (pw_i mk), some (pw_i z)] [pw_i x56, pw_i x51] _
              have hx56r : x56 = pw_g h 110 2 := hx56r
              refine pw_if2 E (pc' := 74) rfl (by decide) (by omega) (by omega) (by omega) (by omega) ?_ ?_
              · intro hc57
                have hc57 : x56 ≤ x51 := hc57
                refine pw_ld E (pc' := 75) (st' := [.ref 16]) rfl (fun _ => rfl) ?_
                refine pw_getR (b := 120) I E (c := 0) (k := 19) (pc' := 78) rfl rfl rfl rfl rfl rfl rfl ?_
                refine pw_ld E (pc' := 79) (st' := [pw_i mk, .ref 120]) rfl (fun _ => rfl) ?_
                refine pw_aald (b := 126) I E (c := 104) (pc' := 80) rfl rfl (by decide) rfl (by decide) (by omega) (by omega) (by rw [hj7]; rfl) rfl ?_
                refine pw_ld E (pc' := 81) (st' := [.ref 16, .ref 126]) rfl (fun _ => rfl) ?_
                refine pw_getR (b := 26) I E (c := 0) (k := 2) (pc' := 84) rfl rfl rfl rfl rfl rfl rfl ?_
                refine pw_ld E (pc' := 85) (st' := [.ref 16, .ref 26, .ref 126]) rfl (fun _ => rfl) ?_
                refine pw_getR (b := 28) I E (c := 0) (k := 3) (pc' := 88) rfl rfl rfl rfl rfl rfl rfl ?_
                obtain ⟨f59l, f59h, -⟩ := pw_obj (c := 110) I rfl
                refine pw_call (m' := 34) (As := [.ref 126, .ref 26, .ref 28]) (rest := []) (ls'' := [some (.ref 126), some (.ref 26), some (.ref 28)]) (by omega) E rfl (fun _ => pw_iV rfl rfl rfl rfl (pw_cellI f59h rfl)) (rfl : pm_ent 34 = some (3, 3, 3, 4, pmc_34)) rfl rfl (cm_34_110 (by omega) I 10 (by unfold pw_Lg; omega) 12 (by unfold pw_Lg; omega)) ?_
                rintro h60 v61 ⟨h60I, h60E, rfl⟩
                refine ⟨_, rfl, ?_⟩
                have h60F := E0.tr (h60E.wk (W' := [11, 13, 100, 105, 107, 109, 110, 112, 114, 115, 117, 119, 120, 122, 124]) (by first | rfl | simp))
                show pw X d h60 167 91 [some (.ref 16), some (pw_i mk), some (pw_i z)] [] _
                refine pw_ld E (pc' := 92) (st' := [.ref 16]) rfl (fun _ => rfl) ?_
                refine pw_getR (b := 116) h60I E (c := 0) (k := 18) (pc' := 95) rfl rfl rfl rfl rfl rfl rfl ?_
                refine pw_ld E (pc' := 96) (st' := [.ref 16, .ref 116]) rfl (fun _ => rfl) ?_
                refine pw_getR (b := 120) h60I E (c := 0) (k := 19) (pc' := 99) rfl rfl rfl rfl rfl rfl rfl ?_
                refine pw_ld E (pc' := 100) (st' := [pw_i mk, .ref 120, .ref 116]) rfl (fun _ => rfl) ?_
                refine pw_aald (b := 126) h60I E (c := 104) (pc' := 101) rfl rfl (by decide) rfl (by decide) (by omega) (by omega) (by rw [hj7]; rfl) rfl ?_
                obtain ⟨f63l, f63h, -⟩ := pw_obj (c := 110) h60I rfl
                refine pw_call (m' := 33) (As := [.ref 126]) (rest := [.ref 116]) (ls'' := [some (.ref 126)]) (by omega) E rfl (fun _ => pw_iV rfl rfl rfl rfl (pw_cellI f63h rfl)) (rfl : pm_ent 33 = some (1, 1, 3, 0, pmc_33)) rfl rfl (cm_33_110m (by omega) h60I ) ?_
                rintro u65 v64 ⟨rfl, x66, rfl, hx66a, hx66b, hx66r⟩
                refine ⟨_, rfl, ?_⟩
                show pw X d h60 167 104 [some (.ref 16), some (pw_i mk), some (pw_i z)] [pw_i x66, .ref 116] _
                have hx66r : x66 = pw_g h60 110 2 := hx66r
                obtain ⟨f67l, f67h, -⟩ := pw_obj (c := 100) h60I rfl
                refine pw_call (m' := 41) (As := [.ref 116, pw_i x66]) (rest := []) (ls'' := [some (.ref 116), some (pw_i x66)]) (by omega) E rfl (fun _ => pw_iV rfl rfl rfl rfl (pw_cellI f67h rfl)) (rfl : pm_ent 41 = some (2, 2, 4, 4, pmc_41)) rfl rfl (cm_41_m (by omega) h60I (x66) (by omega) (by omega)) ?_
                rintro h68 v69 ⟨h68I, h68E, hqcutTo, rfl⟩
                refine ⟨_, rfl, ?_⟩
                have h68F := h60F.tr (h68E.wk (W' := [11, 13, 100, 105, 107, 109, 110, 112, 114, 115, 117, 119, 120, 122, 124]) (by first | rfl | simp))
                show pw X d h68 167 107 [some (.ref 16), some (pw_i mk), some (pw_i z)] [] _
                refine pw_ld E (pc' := 108) (st' := [pw_i 1]) rfl (fun _ => rfl) ?_
                refine pw_zret E rfl (by omega) ?_
                have hcc : pw_g h68 100 3 = min (pw_g h60 100 3) _ := hqcutTo
                have h100 : pw_g h60 100 3 = pw_g h 100 3 := (pw_Eg (c := 100) I h60E rfl rfl 3 : pw_g h60 100 3 = pw_g h 100 3)
                have hf0 : pw_g h60 105 2 = pw_g h 105 2 := (pw_Eg (c := 105) I h60E rfl rfl 2 : pw_g h60 105 2 = pw_g h 105 2)
                have hf1 : pw_g h60 110 2 = pw_g h 110 2 := (pw_Eg (c := 110) I h60E rfl rfl 2 : pw_g h60 110 2 = pw_g h 110 2)
                have hf2 : pw_g h60 115 2 = pw_g h 115 2 := (pw_Eg (c := 115) I h60E rfl rfl 2 : pw_g h60 115 2 = pw_g h 115 2)
                have hf3 : pw_g h60 120 2 = pw_g h 120 2 := (pw_Eg (c := 120) I h60E rfl rfl 2 : pw_g h60 120 2 = pw_g h 120 2)
                have hM : pw_MT (pw_g h 100 3) (pw_g h68 100 3) (pw_om h) (pw_lm h) (pw_om h68) (pw_lm h68) mk z 1 := by
                  rcases (by omega : mk = 0 ∨ mk = 1 ∨ mk = 2 ∨ mk = 3) with rfl | rfl | rfl | rfl
                  · first
                    | exact Or.inr (Or.inr (Or.inr ⟨by omega, by omega, by omega, (by show pw_g h 105 3 ≠ 0; omega), (by show pw_g h 105 2 ≤ pw_g h 100 3; omega), rfl, (by show pw_g h68 100 3 = pw_g h 105 2; omega), (pw_i4 ⟨((pw_Eg (c := 105) h60I h68E rfl rfl 2 : pw_g h68 105 2 = pw_g h60 105 2)).trans (pw_Eg (c := 105) I h60E rfl rfl 2 : pw_g h60 105 2 = pw_g h 105 2), ((pw_Eg (c := 105) h60I h68E rfl rfl 3 : pw_g h68 105 3 = pw_g h60 105 3)).trans (pw_Eg (c := 105) I h60E rfl rfl 3 : pw_g h60 105 3 = pw_g h 105 3)⟩ ⟨((pw_Eg (c := 110) h60I h68E rfl rfl 2 : pw_g h68 110 2 = pw_g h60 110 2)).trans (pw_Eg (c := 110) I h60E rfl rfl 2 : pw_g h60 110 2 = pw_g h 110 2), ((pw_Eg (c := 110) h60I h68E rfl rfl 3 : pw_g h68 110 3 = pw_g h60 110 3)).trans (pw_Eg (c := 110) I h60E rfl rfl 3 : pw_g h60 110 3 = pw_g h 110 3)⟩ ⟨((pw_Eg (c := 115) h60I h68E rfl rfl 2 : pw_g h68 115 2 = pw_g h60 115 2)).trans (pw_Eg (c := 115) I h60E rfl rfl 2 : pw_g h60 115 2 = pw_g h 115 2), ((pw_Eg (c := 115) h60I h68E rfl rfl 3 : pw_g h68 115 3 = pw_g h60 115 3)).trans (pw_Eg (c := 115) I h60E rfl rfl 3 : pw_g h60 115 3 = pw_g h 115 3)⟩ ⟨((pw_Eg (c := 120) h60I h68E rfl rfl 2 : pw_g h68 120 2 = pw_g h60 120 2)).trans (pw_Eg (c := 120) I h60E rfl rfl 2 : pw_g h60 120 2 = pw_g h 120 2), ((pw_Eg (c := 120) h60I h68E rfl rfl 3 : pw_g h68 120 3 = pw_g h60 120 3)).trans (pw_Eg (c := 120) I h60E rfl rfl 3 : pw_g h60 120 3 = pw_g h 120 3)⟩)⟩))
                    | (exfalso; omega)
                  · first
                    | exact Or.inr (Or.inr (Or.inr ⟨by omega, by omega, by omega, (by show pw_g h 110 3 ≠ 0; omega), (by show pw_g h 110 2 ≤ pw_g h 100 3; omega), rfl, (by show pw_g h68 100 3 = pw_g h 110 2; omega), (pw_i4 ⟨((pw_Eg (c := 105) h60I h68E rfl rfl 2 : pw_g h68 105 2 = pw_g h60 105 2)).trans (pw_Eg (c := 105) I h60E rfl rfl 2 : pw_g h60 105 2 = pw_g h 105 2), ((pw_Eg (c := 105) h60I h68E rfl rfl 3 : pw_g h68 105 3 = pw_g h60 105 3)).trans (pw_Eg (c := 105) I h60E rfl rfl 3 : pw_g h60 105 3 = pw_g h 105 3)⟩ ⟨((pw_Eg (c := 110) h60I h68E rfl rfl 2 : pw_g h68 110 2 = pw_g h60 110 2)).trans (pw_Eg (c := 110) I h60E rfl rfl 2 : pw_g h60 110 2 = pw_g h 110 2), ((pw_Eg (c := 110) h60I h68E rfl rfl 3 : pw_g h68 110 3 = pw_g h60 110 3)).trans (pw_Eg (c := 110) I h60E rfl rfl 3 : pw_g h60 110 3 = pw_g h 110 3)⟩ ⟨((pw_Eg (c := 115) h60I h68E rfl rfl 2 : pw_g h68 115 2 = pw_g h60 115 2)).trans (pw_Eg (c := 115) I h60E rfl rfl 2 : pw_g h60 115 2 = pw_g h 115 2), ((pw_Eg (c := 115) h60I h68E rfl rfl 3 : pw_g h68 115 3 = pw_g h60 115 3)).trans (pw_Eg (c := 115) I h60E rfl rfl 3 : pw_g h60 115 3 = pw_g h 115 3)⟩ ⟨((pw_Eg (c := 120) h60I h68E rfl rfl 2 : pw_g h68 120 2 = pw_g h60 120 2)).trans (pw_Eg (c := 120) I h60E rfl rfl 2 : pw_g h60 120 2 = pw_g h 120 2), ((pw_Eg (c := 120) h60I h68E rfl rfl 3 : pw_g h68 120 3 = pw_g h60 120 3)).trans (pw_Eg (c := 120) I h60E rfl rfl 3 : pw_g h60 120 3 = pw_g h 120 3)⟩)⟩))
                    | (exfalso; omega)
                  · first
                    | exact Or.inr (Or.inr (Or.inr ⟨by omega, by omega, by omega, (by show pw_g h 115 3 ≠ 0; omega), (by show pw_g h 115 2 ≤ pw_g h 100 3; omega), rfl, (by show pw_g h68 100 3 = pw_g h 115 2; omega), (pw_i4 ⟨((pw_Eg (c := 105) h60I h68E rfl rfl 2 : pw_g h68 105 2 = pw_g h60 105 2)).trans (pw_Eg (c := 105) I h60E rfl rfl 2 : pw_g h60 105 2 = pw_g h 105 2), ((pw_Eg (c := 105) h60I h68E rfl rfl 3 : pw_g h68 105 3 = pw_g h60 105 3)).trans (pw_Eg (c := 105) I h60E rfl rfl 3 : pw_g h60 105 3 = pw_g h 105 3)⟩ ⟨((pw_Eg (c := 110) h60I h68E rfl rfl 2 : pw_g h68 110 2 = pw_g h60 110 2)).trans (pw_Eg (c := 110) I h60E rfl rfl 2 : pw_g h60 110 2 = pw_g h 110 2), ((pw_Eg (c := 110) h60I h68E rfl rfl 3 : pw_g h68 110 3 = pw_g h60 110 3)).trans (pw_Eg (c := 110) I h60E rfl rfl 3 : pw_g h60 110 3 = pw_g h 110 3)⟩ ⟨((pw_Eg (c := 115) h60I h68E rfl rfl 2 : pw_g h68 115 2 = pw_g h60 115 2)).trans (pw_Eg (c := 115) I h60E rfl rfl 2 : pw_g h60 115 2 = pw_g h 115 2), ((pw_Eg (c := 115) h60I h68E rfl rfl 3 : pw_g h68 115 3 = pw_g h60 115 3)).trans (pw_Eg (c := 115) I h60E rfl rfl 3 : pw_g h60 115 3 = pw_g h 115 3)⟩ ⟨((pw_Eg (c := 120) h60I h68E rfl rfl 2 : pw_g h68 120 2 = pw_g h60 120 2)).trans (pw_Eg (c := 120) I h60E rfl rfl 2 : pw_g h60 120 2 = pw_g h 120 2), ((pw_Eg (c := 120) h60I h68E rfl rfl 3 : pw_g h68 120 3 = pw_g h60 120 3)).trans (pw_Eg (c := 120) I h60E rfl rfl 3 : pw_g h60 120 3 = pw_g h 120 3)⟩)⟩))
                    | (exfalso; omega)
                  · first
                    | exact Or.inr (Or.inr (Or.inr ⟨by omega, by omega, by omega, (by show pw_g h 120 3 ≠ 0; omega), (by show pw_g h 120 2 ≤ pw_g h 100 3; omega), rfl, (by show pw_g h68 100 3 = pw_g h 120 2; omega), (pw_i4 ⟨((pw_Eg (c := 105) h60I h68E rfl rfl 2 : pw_g h68 105 2 = pw_g h60 105 2)).trans (pw_Eg (c := 105) I h60E rfl rfl 2 : pw_g h60 105 2 = pw_g h 105 2), ((pw_Eg (c := 105) h60I h68E rfl rfl 3 : pw_g h68 105 3 = pw_g h60 105 3)).trans (pw_Eg (c := 105) I h60E rfl rfl 3 : pw_g h60 105 3 = pw_g h 105 3)⟩ ⟨((pw_Eg (c := 110) h60I h68E rfl rfl 2 : pw_g h68 110 2 = pw_g h60 110 2)).trans (pw_Eg (c := 110) I h60E rfl rfl 2 : pw_g h60 110 2 = pw_g h 110 2), ((pw_Eg (c := 110) h60I h68E rfl rfl 3 : pw_g h68 110 3 = pw_g h60 110 3)).trans (pw_Eg (c := 110) I h60E rfl rfl 3 : pw_g h60 110 3 = pw_g h 110 3)⟩ ⟨((pw_Eg (c := 115) h60I h68E rfl rfl 2 : pw_g h68 115 2 = pw_g h60 115 2)).trans (pw_Eg (c := 115) I h60E rfl rfl 2 : pw_g h60 115 2 = pw_g h 115 2), ((pw_Eg (c := 115) h60I h68E rfl rfl 3 : pw_g h68 115 3 = pw_g h60 115 3)).trans (pw_Eg (c := 115) I h60E rfl rfl 3 : pw_g h60 115 3 = pw_g h 115 3)⟩ ⟨((pw_Eg (c := 120) h60I h68E rfl rfl 2 : pw_g h68 120 2 = pw_g h60 120 2)).trans (pw_Eg (c := 120) I h60E rfl rfl 2 : pw_g h60 120 2 = pw_g h 120 2), ((pw_Eg (c := 120) h60I h68E rfl rfl 3 : pw_g h68 120 3 = pw_g h60 120 3)).trans (pw_Eg (c := 120) I h60E rfl rfl 3 : pw_g h60 120 3 = pw_g h 120 3)⟩)⟩))
                    | (exfalso; omega)
                exact ⟨h68I, h68F, ⟨_, rfl, by omega, by omega, hM⟩⟩
              · intro hc70
                have hc70 : ¬ (x56 ≤ x51) := hc70
                refine pw_ld E (pc' := 73) (st' := [pw_i 0]) rfl (fun _ => rfl) ?_
                refine pw_zret E rfl (by omega) ?_
                have hsame : ∀ i : Nat, i < 4 → pw_om h i = pw_om h i ∧ pw_lm h i = pw_lm h i := fun _ _ => ⟨rfl, rfl⟩
                have hM : pw_MT (pw_g h 100 3) (pw_g h 100 3) (pw_om h) (pw_lm h) (pw_om h) (pw_lm h) mk z 0 := by
                  rcases (by omega : ¬ (0 ≤ mk ∧ mk ≤ 3) ∨ mk = 0 ∨ mk = 1 ∨ mk = 2 ∨ mk = 3) with hq | rfl | rfl | rfl | rfl
                  · exact Or.inl ⟨hq, rfl, rfl, hsame⟩
                  · exact Or.inr (Or.inr (Or.inl ⟨by omega, by omega, by omega, (by show pw_g h 105 3 = 0 ∨ pw_g h 100 3 < pw_g h 105 2; omega), rfl, rfl, hsame⟩))
                  · exact Or.inr (Or.inr (Or.inl ⟨by omega, by omega, by omega, (by show pw_g h 110 3 = 0 ∨ pw_g h 100 3 < pw_g h 110 2; omega), rfl, rfl, hsame⟩))
                  · exact Or.inr (Or.inr (Or.inl ⟨by omega, by omega, by omega, (by show pw_g h 115 3 = 0 ∨ pw_g h 100 3 < pw_g h 115 2; omega), rfl, rfl, hsame⟩))
                  · exact Or.inr (Or.inr (Or.inl ⟨by omega, by omega, by omega, (by show pw_g h 120 3 = 0 ∨ pw_g h 100 3 < pw_g h 120 2; omega), rfl, rfl, hsame⟩))
                exact ⟨I, E0, ⟨_, rfl, by omega, by omega, hM⟩⟩
          · have hb71 : x44 = 0 := by omega
            refine pw_if E (pc' := 72) rfl (by decide) (by omega) (by omega) ?_ ?_
            · intro hc72
              have hc72 : x44 = (0 : Int) := hc72
              refine pw_ld E (pc' := 73) (st' := [pw_i 0]) rfl (fun _ => rfl) ?_
              refine pw_zret E rfl (by omega) ?_
              have hsame : ∀ i : Nat, i < 4 → pw_om h i = pw_om h i ∧ pw_lm h i = pw_lm h i := fun _ _ => ⟨rfl, rfl⟩
              have hM : pw_MT (pw_g h 100 3) (pw_g h 100 3) (pw_om h) (pw_lm h) (pw_om h) (pw_lm h) mk z 0 := by
                rcases (by omega : ¬ (0 ≤ mk ∧ mk ≤ 3) ∨ mk = 0 ∨ mk = 1 ∨ mk = 2 ∨ mk = 3) with hq | rfl | rfl | rfl | rfl
                · exact Or.inl ⟨hq, rfl, rfl, hsame⟩
                · exact Or.inr (Or.inr (Or.inl ⟨by omega, by omega, by omega, (by show pw_g h 105 3 = 0 ∨ pw_g h 100 3 < pw_g h 105 2; omega), rfl, rfl, hsame⟩))
                · exact Or.inr (Or.inr (Or.inl ⟨by omega, by omega, by omega, (by show pw_g h 110 3 = 0 ∨ pw_g h 100 3 < pw_g h 110 2; omega), rfl, rfl, hsame⟩))
                · exact Or.inr (Or.inr (Or.inl ⟨by omega, by omega, by omega, (by show pw_g h 115 3 = 0 ∨ pw_g h 100 3 < pw_g h 115 2; omega), rfl, rfl, hsame⟩))
                · exact Or.inr (Or.inr (Or.inl ⟨by omega, by omega, by omega, (by show pw_g h 120 3 = 0 ∨ pw_g h 100 3 < pw_g h 120 2; omega), rfl, rfl, hsame⟩))
              exact ⟨I, E0, ⟨_, rfl, by omega, by omega, hM⟩⟩
            · intro hc73
              have hc73 : ¬ (x44 = (0 : Int)) := hc73
              exfalso; omega
        · refine pw_aald (b := 131) I E (c := 104) (pc' := 47) rfl rfl (by decide) rfl (by decide) (by omega) (by omega) (by rw [hj7]; rfl) rfl ?_
          obtain ⟨f74l, f74h, -⟩ := pw_obj (c := 115) I rfl
          refine pw_call (m' := 32) (As := [.ref 131]) (rest := []) (ls'' := [some (.ref 131)]) (by omega) E rfl (fun _ => pw_iV rfl rfl rfl rfl (pw_cellI f74h rfl)) (rfl : pm_ent 32 = some (1, 1, 3, 1, pmc_32)) rfl rfl (cm_32_115m (by omega) I ) ?_
          rintro u76 v75 ⟨rfl, x77, rfl, hx77a, hx77b, hx77r⟩
          refine ⟨_, rfl, ?_⟩
          show pw X d h 167 50 [some (.ref 16), some (pw_i mk), some (pw_i z)] [pw_i x77] _
          have hx77r : x77 = pw_g h 115 3 := hx77r
          rcases (by omega : x77 = 1 ∨ x77 = 0) with hb78 | hb78
          · have hb78 : x77 = 1 := by omega
            refine pw_if E (pc' := 72) rfl (by decide) (by omega) (by omega) ?_ ?_
            · intro hc79
              have hc79 : x77 = (0 : Int) := hc79
              exfalso; omega
            · intro hc80
              have hc80 : ¬ (x77 = (0 : Int)) := hc80
              refine pw_ld E (pc' := 54) (st' := [.ref 16]) rfl (fun _ => rfl) ?_
              refine pw_getR (b := 116) I E (c := 0) (k := 18) (pc' := 57) rfl rfl rfl rfl rfl rfl rfl ?_
              obtain ⟨f81l, f81h, -⟩ := pw_obj (c := 100) I rfl
              refine pw_call (m' := 40) (As := [.ref 116]) (rest := []) (ls'' := [some (.ref 116)]) (by omega) E rfl (fun _ => pw_iV rfl rfl rfl rfl (pw_cellI f81h rfl)) (rfl : pm_ent 40 = some (1, 1, 4, 0, pmc_40)) rfl rfl (cm_40_m (by omega) I ) ?_
              rintro u83 v82 ⟨rfl, x84, rfl, hx84a, hx84b, hx84r⟩
              refine ⟨_, rfl, ?_⟩
              show pw X d h 167 60 [some (.ref 16), some (pw_i mk), some (pw_i z)] [pw_i x84] _
              have hx84r : x84 = pw_g h 100 3 := hx84r
              refine pw_ld E (pc' := 61) (st' := [.ref 16, pw_i x84]) rfl (fun _ => rfl) ?_
              refine pw_getR (b := 120) I E (c := 0) (k := 19) (pc' := 64) rfl rfl rfl rfl rfl rfl rfl ?_
              refine pw_ld E (pc' := 65) (st' := [pw_i mk, .ref 120, pw_i x84]) rfl (fun _ => rfl) ?_
              refine pw_aald (b := 131) I E (c := 104) (pc' := 66) rfl rfl (by decide) rfl (by decide) (by omega) (by omega) (by rw [hj7]; rfl) rfl ?_
              obtain ⟨f86l, f86h, -⟩ := pw_obj (c := 115) I rfl
              refine pw_call (m' := 33) (As := [.ref 131]) (rest := [pw_i x84]) (ls'' := [some (.ref 131)]) (by omega) E rfl (fun _ => pw_iV rfl rfl rfl rfl (pw_cellI f86h rfl)) (rfl : pm_ent 33 = some (1, 1, 3, 0, pmc_33)) rfl rfl (cm_33_115m (by omega) I ) ?_
              rintro u88 v87 ⟨rfl, x89, rfl, hx89a, hx89b, hx89r⟩
              refine ⟨_, rfl, ?_⟩
              show pw X d h 167 69 [some (.ref 16), some (pw_i mk), some (pw_i z)] [pw_i x89, pw_i x84] _
              have hx89r : x89 = pw_g h 115 2 := hx89r
              refine pw_if2 E (pc' := 74) rfl (by decide) (by omega) (by omega) (by omega) (by omega) ?_ ?_
              · intro hc90
                have hc90 : x89 ≤ x84 := hc90
                refine pw_ld E (pc' := 75) (st' := [.ref 16]) rfl (fun _ => rfl) ?_
                refine pw_getR (b := 120) I E (c := 0) (k := 19) (pc' := 78) rfl rfl rfl rfl rfl rfl rfl ?_
                refine pw_ld E (pc' := 79) (st' := [pw_i mk, .ref 120]) rfl (fun _ => rfl) ?_
                refine pw_aald (b := 131) I E (c := 104) (pc' := 80) rfl rfl (by decide) rfl (by decide) (by omega) (by omega) (by rw [hj7]; rfl) rfl ?_
                refine pw_ld E (pc' := 81) (st' := [.ref 16, .ref 131]) rfl (fun _ => rfl) ?_
                refine pw_getR (b := 26) I E (c := 0) (k := 2) (pc' := 84) rfl rfl rfl rfl rfl rfl rfl ?_
                refine pw_ld E (pc' := 85) (st' := [.ref 16, .ref 26, .ref 131]) rfl (fun _ => rfl) ?_
                refine pw_getR (b := 28) I E (c := 0) (k := 3) (pc' := 88) rfl rfl rfl rfl rfl rfl rfl ?_
                obtain ⟨f92l, f92h, -⟩ := pw_obj (c := 115) I rfl
                refine pw_call (m' := 34) (As := [.ref 131, .ref 26, .ref 28]) (rest := []) (ls'' := [some (.ref 131), some (.ref 26), some (.ref 28)]) (by omega) E rfl (fun _ => pw_iV rfl rfl rfl rfl (pw_cellI f92h rfl)) (rfl : pm_ent 34 = some (3, 3, 3, 4, pmc_34)) rfl rfl (cm_34_115 (by omega) I 10 (by unfold pw_Lg; omega) 12 (by unfold pw_Lg; omega)) ?_
                rintro h93 v94 ⟨h93I, h93E, rfl⟩
                refine ⟨_, rfl, ?_⟩
                have h93F := E0.tr (h93E.wk (W' := [11, 13, 100, 105, 107, 109, 110, 112, 114, 115, 117, 119, 120, 122, 124]) (by first | rfl | simp))
                show pw X d h93 167 91 [some (.ref 16), some (pw_i mk), some (pw_i z)] [] _
                refine pw_ld E (pc' := 92) (st' := [.ref 16]) rfl (fun _ => rfl) ?_
                refine pw_getR (b := 116) h93I E (c := 0) (k := 18) (pc' := 95) rfl rfl rfl rfl rfl rfl rfl ?_
                refine pw_ld E (pc' := 96) (st' := [.ref 16, .ref 116]) rfl (fun _ => rfl) ?_
                refine pw_getR (b := 120) h93I E (c := 0) (k := 19) (pc' := 99) rfl rfl rfl rfl rfl rfl rfl ?_
                refine pw_ld E (pc' := 100) (st' := [pw_i mk, .ref 120, .ref 116]) rfl (fun _ => rfl) ?_
                refine pw_aald (b := 131) h93I E (c := 104) (pc' := 101) rfl rfl (by decide) rfl (by decide) (by omega) (by omega) (by rw [hj7]; rfl) rfl ?_
                obtain ⟨f96l, f96h, -⟩ := pw_obj (c := 115) h93I rfl
                refine pw_call (m' := 33) (As := [.ref 131]) (rest := [.ref 116]) (ls'' := [some (.ref 131)]) (by omega) E rfl (fun _ => pw_iV rfl rfl rfl rfl (pw_cellI f96h rfl)) (rfl : pm_ent 33 = some (1, 1, 3, 0, pmc_33)) rfl rfl (cm_33_115m (by omega) h93I ) ?_
                rintro u98 v97 ⟨rfl, x99, rfl, hx99a, hx99b, hx99r⟩
                refine ⟨_, rfl, ?_⟩
                show pw X d h93 167 104 [some (.ref 16), some (pw_i mk), some (pw_i z)] [pw_i x99, .ref 116] _
                have hx99r : x99 = pw_g h93 115 2 := hx99r
                obtain ⟨f100l, f100h, -⟩ := pw_obj (c := 100) h93I rfl
                refine pw_call (m' := 41) (As := [.ref 116, pw_i x99]) (rest := []) (ls'' := [some (.ref 116), some (pw_i x99)]) (by omega) E rfl (fun _ => pw_iV rfl rfl rfl rfl (pw_cellI f100h rfl)) (rfl : pm_ent 41 = some (2, 2, 4, 4, pmc_41)) rfl rfl (cm_41_m (by omega) h93I (x99) (by omega) (by omega)) ?_
                rintro h101 v102 ⟨h101I, h101E, hqcutTo, rfl⟩
                refine ⟨_, rfl, ?_⟩
                have h101F := h93F.tr (h101E.wk (W' := [11, 13, 100, 105, 107, 109, 110, 112, 114, 115, 117, 119, 120, 122, 124]) (by first | rfl | simp))
                show pw X d h101 167 107 [some (.ref 16), some (pw_i mk), some (pw_i z)] [] _
                refine pw_ld E (pc' := 108) (st' := [pw_i 1]) rfl (fun _ => rfl) ?_
                refine pw_zret E rfl (by omega) ?_
                have hcc : pw_g h101 100 3 = min (pw_g h93 100 3) _ := hqcutTo
                have h100 : pw_g h93 100 3 = pw_g h 100 3 := (pw_Eg (c := 100) I h93E rfl rfl 3 : pw_g h93 100 3 = pw_g h 100 3)
                have hf0 : pw_g h93 105 2 = pw_g h 105 2 := (pw_Eg (c := 105) I h93E rfl rfl 2 : pw_g h93 105 2 = pw_g h 105 2)
                have hf1 : pw_g h93 110 2 = pw_g h 110 2 := (pw_Eg (c := 110) I h93E rfl rfl 2 : pw_g h93 110 2 = pw_g h 110 2)
                have hf2 : pw_g h93 115 2 = pw_g h 115 2 := (pw_Eg (c := 115) I h93E rfl rfl 2 : pw_g h93 115 2 = pw_g h 115 2)
                have hf3 : pw_g h93 120 2 = pw_g h 120 2 := (pw_Eg (c := 120) I h93E rfl rfl 2 : pw_g h93 120 2 = pw_g h 120 2)
                have hM : pw_MT (pw_g h 100 3) (pw_g h101 100 3) (pw_om h) (pw_lm h) (pw_om h101) (pw_lm h101) mk z 1 := by
                  rcases (by omega : mk = 0 ∨ mk = 1 ∨ mk = 2 ∨ mk = 3) with rfl | rfl | rfl | rfl
                  · first
                    | exact Or.inr (Or.inr (Or.inr ⟨by omega, by omega, by omega, (by show pw_g h 105 3 ≠ 0; omega), (by show pw_g h 105 2 ≤ pw_g h 100 3; omega), rfl, (by show pw_g h101 100 3 = pw_g h 105 2; omega), (pw_i4 ⟨((pw_Eg (c := 105) h93I h101E rfl rfl 2 : pw_g h101 105 2 = pw_g h93 105 2)).trans (pw_Eg (c := 105) I h93E rfl rfl 2 : pw_g h93 105 2 = pw_g h 105 2), ((pw_Eg (c := 105) h93I h101E rfl rfl 3 : pw_g h101 105 3 = pw_g h93 105 3)).trans (pw_Eg (c := 105) I h93E rfl rfl 3 : pw_g h93 105 3 = pw_g h 105 3)⟩ ⟨((pw_Eg (c := 110) h93I h101E rfl rfl 2 : pw_g h101 110 2 = pw_g h93 110 2)).trans (pw_Eg (c := 110) I h93E rfl rfl 2 : pw_g h93 110 2 = pw_g h 110 2), ((pw_Eg (c := 110) h93I h101E rfl rfl 3 : pw_g h101 110 3 = pw_g h93 110 3)).trans (pw_Eg (c := 110) I h93E rfl rfl 3 : pw_g h93 110 3 = pw_g h 110 3)⟩ ⟨((pw_Eg (c := 115) h93I h101E rfl rfl 2 : pw_g h101 115 2 = pw_g h93 115 2)).trans (pw_Eg (c := 115) I h93E rfl rfl 2 : pw_g h93 115 2 = pw_g h 115 2), ((pw_Eg (c := 115) h93I h101E rfl rfl 3 : pw_g h101 115 3 = pw_g h93 115 3)).trans (pw_Eg (c := 115) I h93E rfl rfl 3 : pw_g h93 115 3 = pw_g h 115 3)⟩ ⟨((pw_Eg (c := 120) h93I h101E rfl rfl 2 : pw_g h101 120 2 = pw_g h93 120 2)).trans (pw_Eg (c := 120) I h93E rfl rfl 2 : pw_g h93 120 2 = pw_g h 120 2), ((pw_Eg (c := 120) h93I h101E rfl rfl 3 : pw_g h101 120 3 = pw_g h93 120 3)).trans (pw_Eg (c := 120) I h93E rfl rfl 3 : pw_g h93 120 3 = pw_g h 120 3)⟩)⟩))
                    | (exfalso; omega)
                  · first
                    | exact Or.inr (Or.inr (Or.inr ⟨by omega, by omega, by omega, (by show pw_g h 110 3 ≠ 0; omega), (by show pw_g h 110 2 ≤ pw_g h 100 3; omega), rfl, (by show pw_g h101 100 3 = pw_g h 110 2; omega), (pw_i4 ⟨((pw_Eg (c := 105) h93I h101E rfl rfl 2 : pw_g h101 105 2 = pw_g h93 105 2)).trans (pw_Eg (c := 105) I h93E rfl rfl 2 : pw_g h93 105 2 = pw_g h 105 2), ((pw_Eg (c := 105) h93I h101E rfl rfl 3 : pw_g h101 105 3 = pw_g h93 105 3)).trans (pw_Eg (c := 105) I h93E rfl rfl 3 : pw_g h93 105 3 = pw_g h 105 3)⟩ ⟨((pw_Eg (c := 110) h93I h101E rfl rfl 2 : pw_g h101 110 2 = pw_g h93 110 2)).trans (pw_Eg (c := 110) I h93E rfl rfl 2 : pw_g h93 110 2 = pw_g h 110 2), ((pw_Eg (c := 110) h93I h101E rfl rfl 3 : pw_g h101 110 3 = pw_g h93 110 3)).trans (pw_Eg (c := 110) I h93E rfl rfl 3 : pw_g h93 110 3 = pw_g h 110 3)⟩ ⟨((pw_Eg (c := 115) h93I h101E rfl rfl 2 : pw_g h101 115 2 = pw_g h93 115 2)).trans (pw_Eg (c := 115) I h93E rfl rfl 2 : pw_g h93 115 2 = pw_g h 115 2), ((pw_Eg (c := 115) h93I h101E rfl rfl 3 : pw_g h101 115 3 = pw_g h93 115 3)).trans (pw_Eg (c := 115) I h93E rfl rfl 3 : pw_g h93 115 3 = pw_g h 115 3)⟩ ⟨((pw_Eg (c := 120) h93I h101E rfl rfl 2 : pw_g h101 120 2 = pw_g h93 120 2)).trans (pw_Eg (c := 120) I h93E rfl rfl 2 : pw_g h93 120 2 = pw_g h 120 2), ((pw_Eg (c := 120) h93I h101E rfl rfl 3 : pw_g h101 120 3 = pw_g h93 120 3)).trans (pw_Eg (c := 120) I h93E rfl rfl 3 : pw_g h93 120 3 = pw_g h 120 3)⟩)⟩))
                    | (exfalso; omega)
                  · first
                    | exact Or.inr (Or.inr (Or.inr ⟨by omega, by omega, by omega, (by show pw_g h 115 3 ≠ 0; omega), (by show pw_g h 115 2 ≤ pw_g h 100 3; omega), rfl, (by show pw_g h101 100 3 = pw_g h 115 2; omega), (pw_i4 ⟨((pw_Eg (c := 105) h93I h101E rfl rfl 2 : pw_g h101 105 2 = pw_g h93 105 2)).trans (pw_Eg (c := 105) I h93E rfl rfl 2 : pw_g h93 105 2 = pw_g h 105 2), ((pw_Eg (c := 105) h93I h101E rfl rfl 3 : pw_g h101 105 3 = pw_g h93 105 3)).trans (pw_Eg (c := 105) I h93E rfl rfl 3 : pw_g h93 105 3 = pw_g h 105 3)⟩ ⟨((pw_Eg (c := 110) h93I h101E rfl rfl 2 : pw_g h101 110 2 = pw_g h93 110 2)).trans (pw_Eg (c := 110) I h93E rfl rfl 2 : pw_g h93 110 2 = pw_g h 110 2), ((pw_Eg (c := 110) h93I h101E rfl rfl 3 : pw_g h101 110 3 = pw_g h93 110 3)).trans (pw_Eg (c := 110) I h93E rfl rfl 3 : pw_g h93 110 3 = pw_g h 110 3)⟩ ⟨((pw_Eg (c := 115) h93I h101E rfl rfl 2 : pw_g h101 115 2 = pw_g h93 115 2)).trans (pw_Eg (c := 115) I h93E rfl rfl 2 : pw_g h93 115 2 = pw_g h 115 2), ((pw_Eg (c := 115) h93I h101E rfl rfl 3 : pw_g h101 115 3 = pw_g h93 115 3)).trans (pw_Eg (c := 115) I h93E rfl rfl 3 : pw_g h93 115 3 = pw_g h 115 3)⟩ ⟨((pw_Eg (c := 120) h93I h101E rfl rfl 2 : pw_g h101 120 2 = pw_g h93 120 2)).trans (pw_Eg (c := 120) I h93E rfl rfl 2 : pw_g h93 120 2 = pw_g h 120 2), ((pw_Eg (c := 120) h93I h101E rfl rfl 3 : pw_g h101 120 3 = pw_g h93 120 3)).trans (pw_Eg (c := 120) I h93E rfl rfl 3 : pw_g h93 120 3 = pw_g h 120 3)⟩)⟩))
                    | (exfalso; omega)
                  · first
                    | exact Or.inr (Or.inr (Or.inr ⟨by omega, by omega, by omega, (by show pw_g h 120 3 ≠ 0; omega), (by show pw_g h 120 2 ≤ pw_g h 100 3; omega), rfl, (by show pw_g h101 100 3 = pw_g h 120 2; omega), (pw_i4 ⟨((pw_Eg (c := 105) h93I h101E rfl rfl 2 : pw_g h101 105 2 = pw_g h93 105 2)).trans (pw_Eg (c := 105) I h93E rfl rfl 2 : pw_g h93 105 2 = pw_g h 105 2), ((pw_Eg (c := 105) h93I h101E rfl rfl 3 : pw_g h101 105 3 = pw_g h93 105 3)).trans (pw_Eg (c := 105) I h93E rfl rfl 3 : pw_g h93 105 3 = pw_g h 105 3)⟩ ⟨((pw_Eg (c := 110) h93I h101E rfl rfl 2 : pw_g h101 110 2 = pw_g h93 110 2)).trans (pw_Eg (c := 110) I h93E rfl rfl 2 : pw_g h93 110 2 = pw_g h 110 2), ((pw_Eg (c := 110) h93I h101E rfl rfl 3 : pw_g h101 110 3 = pw_g h93 110 3)).trans (pw_Eg (c := 110) I h93E rfl rfl 3 : pw_g h93 110 3 = pw_g h 110 3)⟩ ⟨((pw_Eg (c := 115) h93I h101E rfl rfl 2 : pw_g h101 115 2 = pw_g h93 115 2)).trans (pw_Eg (c := 115) I h93E rfl rfl 2 : pw_g h93 115 2 = pw_g h 115 2), ((pw_Eg (c := 115) h93I h101E rfl rfl 3 : pw_g h101 115 3 = pw_g h93 115 3)).trans (pw_Eg (c := 115) I h93E rfl rfl 3 : pw_g h93 115 3 = pw_g h 115 3)⟩ ⟨((pw_Eg (c := 120) h93I h101E rfl rfl 2 : pw_g h101 120 2 = pw_g h93 120 2)).trans (pw_Eg (c := 120) I h93E rfl rfl 2 : pw_g h93 120 2 = pw_g h 120 2), ((pw_Eg (c := 120) h93I h101E rfl rfl 3 : pw_g h101 120 3 = pw_g h93 120 3)).trans (pw_Eg (c := 120) I h93E rfl rfl 3 : pw_g h93 120 3 = pw_g h 120 3)⟩)⟩))
                    | (exfalso; omega)
                exact ⟨h101I, h101F, ⟨_, rfl, by omega, by omega, hM⟩⟩
              · intro hc103
                have hc103 : ¬ (x89 ≤ x84) := hc103
                refine pw_ld E (pc' := 73) (st' := [pw_i 0]) rfl (fun _ => rfl) ?_
                refine pw_zret E rfl (by omega) ?_
                have hsame : ∀ i : Nat, i < 4 → pw_om h i = pw_om h i ∧ pw_lm h i = pw_lm h i := fun _ _ => ⟨rfl, rfl⟩
                have hM : pw_MT (pw_g h 100 3) (pw_g h 100 3) (pw_om h) (pw_lm h) (pw_om h) (pw_lm h) mk z 0 := by
                  rcases (by omega : ¬ (0 ≤ mk ∧ mk ≤ 3) ∨ mk = 0 ∨ mk = 1 ∨ mk = 2 ∨ mk = 3) with hq | rfl | rfl | rfl | rfl
                  · exact Or.inl ⟨hq, rfl, rfl, hsame⟩
                  · exact Or.inr (Or.inr (Or.inl ⟨by omega, by omega, by omega, (by show pw_g h 105 3 = 0 ∨ pw_g h 100 3 < pw_g h 105 2; omega), rfl, rfl, hsame⟩))
                  · exact Or.inr (Or.inr (Or.inl ⟨by omega, by omega, by omega, (by show pw_g h 110 3 = 0 ∨ pw_g h 100 3 < pw_g h 110 2; omega), rfl, rfl, hsame⟩))
                  · exact Or.inr (Or.inr (Or.inl ⟨by omega, by omega, by omega, (by show pw_g h 115 3 = 0 ∨ pw_g h 100 3 < pw_g h 115 2; omega), rfl, rfl, hsame⟩))
                  · exact Or.inr (Or.inr (Or.inl ⟨by omega, by omega, by omega, (by show pw_g h 120 3 = 0 ∨ pw_g h 100 3 < pw_g h 120 2; omega), rfl, rfl, hsame⟩))
                exact ⟨I, E0, ⟨_, rfl, by omega, by omega, hM⟩⟩
          · have hb104 : x77 = 0 := by omega
            refine pw_if E (pc' := 72) rfl (by decide) (by omega) (by omega) ?_ ?_
            · intro hc105
              have hc105 : x77 = (0 : Int) := hc105
              refine pw_ld E (pc' := 73) (st' := [pw_i 0]) rfl (fun _ => rfl) ?_
              refine pw_zret E rfl (by omega) ?_
              have hsame : ∀ i : Nat, i < 4 → pw_om h i = pw_om h i ∧ pw_lm h i = pw_lm h i := fun _ _ => ⟨rfl, rfl⟩
              have hM : pw_MT (pw_g h 100 3) (pw_g h 100 3) (pw_om h) (pw_lm h) (pw_om h) (pw_lm h) mk z 0 := by
                rcases (by omega : ¬ (0 ≤ mk ∧ mk ≤ 3) ∨ mk = 0 ∨ mk = 1 ∨ mk = 2 ∨ mk = 3) with hq | rfl | rfl | rfl | rfl
                · exact Or.inl ⟨hq, rfl, rfl, hsame⟩
                · exact Or.inr (Or.inr (Or.inl ⟨by omega, by omega, by omega, (by show pw_g h 105 3 = 0 ∨ pw_g h 100 3 < pw_g h 105 2; omega), rfl, rfl, hsame⟩))
                · exact Or.inr (Or.inr (Or.inl ⟨by omega, by omega, by omega, (by show pw_g h 110 3 = 0 ∨ pw_g h 100 3 < pw_g h 110 2; omega), rfl, rfl, hsame⟩))
                · exact Or.inr (Or.inr (Or.inl ⟨by omega, by omega, by omega, (by show pw_g h 115 3 = 0 ∨ pw_g h 100 3 < pw_g h 115 2; omega), rfl, rfl, hsame⟩))
                · exact Or.inr (Or.inr (Or.inl ⟨by omega, by omega, by omega, (by show pw_g h 120 3 = 0 ∨ pw_g h 100 3 < pw_g h 120 2; omega), rfl, rfl, hsame⟩))
              exact ⟨I, E0, ⟨_, rfl, by omega, by omega, hM⟩⟩
            · intro hc106
              have hc106 : ¬ (x77 = (0 : Int)) := hc106
              exfalso; omega
        · refine pw_aald (b := 136) I E (c := 104) (pc' := 47) rfl rfl (by decide) rfl (by decide) (by omega) (by omega) (by rw [hj7]; rfl) rfl ?_
          obtain ⟨f107l, f107h, -⟩ := pw_obj (c := 120) I rfl
          refine pw_call (m' := 32) (As := [.ref 136]) (rest := []) (ls'' := [some (.ref 136)]) (by omega) E rfl (fun _ => pw_iV rfl rfl rfl rfl (pw_cellI f107h rfl)) (rfl : pm_ent 32 = some (1, 1, 3, 1, pmc_32)) rfl rfl (cm_32_120m (by omega) I ) ?_
          rintro u109 v108 ⟨rfl, x110, rfl, hx110a, hx110b, hx110r⟩
          refine ⟨_, rfl, ?_⟩
          show pw X d h 167 50 [some (.ref 16), some (pw_i mk), some (pw_i z)] [pw_i x110] _
          have hx110r : x110 = pw_g h 120 3 := hx110r
          rcases (by omega : x110 = 1 ∨ x110 = 0) with hb111 | hb111
          · have hb111 : x110 = 1 := by omega
            refine pw_if E (pc' := 72) rfl (by decide) (by omega) (by omega) ?_ ?_
            · intro hc112
              have hc112 : x110 = (0 : Int) := hc112
              exfalso; omega
            · intro hc113
              have hc113 : ¬ (x110 = (0 : Int)) := hc113
              refine pw_ld E (pc' := 54) (st' := [.ref 16]) rfl (fun _ => rfl) ?_
              refine pw_getR (b := 116) I E (c := 0) (k := 18) (pc' := 57) rfl rfl rfl rfl rfl rfl rfl ?_
              obtain ⟨f114l, f114h, -⟩ := pw_obj (c := 100) I rfl
              refine pw_call (m' := 40) (As := [.ref 116]) (rest := []) (ls'' := [some (.ref 116)]) (by omega) E rfl (fun _ => pw_iV rfl rfl rfl rfl (pw_cellI f114h rfl)) (rfl : pm_ent 40 = some (1, 1, 4, 0, pmc_40)) rfl rfl (cm_40_m (by omega) I ) ?_
              rintro u116 v115 ⟨rfl, x117, rfl, hx117a, hx117b, hx117r⟩
              refine ⟨_, rfl, ?_⟩
              show pw X d h 167 60 [some (.ref 16), some (pw_i mk), some (pw_i z)] [pw_i x117] _
              have hx117r : x117 = pw_g h 100 3 := hx117r
              refine pw_ld E (pc' := 61) (st' := [.ref 16, pw_i x117]) rfl (fun _ => rfl) ?_
              refine pw_getR (b := 120) I E (c := 0) (k := 19) (pc' := 64) rfl rfl rfl rfl rfl rfl rfl ?_
              refine pw_ld E (pc' := 65) (st' := [pw_i mk, .ref 120, pw_i x117]) rfl (fun _ => rfl) ?_
              refine pw_aald (b := 136) I E (c := 104) (pc' := 66) rfl rfl (by decide) rfl (by decide) (by omega) (by omega) (by rw [hj7]; rfl) rfl ?_
              obtain ⟨f119l, f119h, -⟩ := pw_obj (c := 120) I rfl
              refine pw_call (m' := 33) (As := [.ref 136]) (rest := [pw_i x117]) (ls'' := [some (.ref 136)]) (by omega) E rfl (fun _ => pw_iV rfl rfl rfl rfl (pw_cellI f119h rfl)) (rfl : pm_ent 33 = some (1, 1, 3, 0, pmc_33)) rfl rfl (cm_33_120m (by omega) I ) ?_
              rintro u121 v120 ⟨rfl, x122, rfl, hx122a, hx122b, hx122r⟩
              refine ⟨_, rfl, ?_⟩
              show pw X d h 167 69 [some (.ref 16), some (pw_i mk), some (pw_i z)] [pw_i x122, pw_i x117] _
              have hx122r : x122 = pw_g h 120 2 := hx122r
              refine pw_if2 E (pc' := 74) rfl (by decide) (by omega) (by omega) (by omega) (by omega) ?_ ?_
              · intro hc123
                have hc123 : x122 ≤ x117 := hc123
                refine pw_ld E (pc' := 75) (st' := [.ref 16]) rfl (fun _ => rfl) ?_
                refine pw_getR (b := 120) I E (c := 0) (k := 19) (pc' := 78) rfl rfl rfl rfl rfl rfl rfl ?_
                refine pw_ld E (pc' := 79) (st' := [pw_i mk, .ref 120]) rfl (fun _ => rfl) ?_
                refine pw_aald (b := 136) I E (c := 104) (pc' := 80) rfl rfl (by decide) rfl (by decide) (by omega) (by omega) (by rw [hj7]; rfl) rfl ?_
                refine pw_ld E (pc' := 81) (st' := [.ref 16, .ref 136]) rfl (fun _ => rfl) ?_
                refine pw_getR (b := 26) I E (c := 0) (k := 2) (pc' := 84) rfl rfl rfl rfl rfl rfl rfl ?_
                refine pw_ld E (pc' := 85) (st' := [.ref 16, .ref 26, .ref 136]) rfl (fun _ => rfl) ?_
                refine pw_getR (b := 28) I E (c := 0) (k := 3) (pc' := 88) rfl rfl rfl rfl rfl rfl rfl ?_
                obtain ⟨f125l, f125h, -⟩ := pw_obj (c := 120) I rfl
                refine pw_call (m' := 34) (As := [.ref 136, .ref 26, .ref 28]) (rest := []) (ls'' := [some (.ref 136), some (.ref 26), some (.ref 28)]) (by omega) E rfl (fun _ => pw_iV rfl rfl rfl rfl (pw_cellI f125h rfl)) (rfl : pm_ent 34 = some (3, 3, 3, 4, pmc_34)) rfl rfl (cm_34_120 (by omega) I 10 (by unfold pw_Lg; omega) 12 (by unfold pw_Lg; omega)) ?_
                rintro h126 v127 ⟨h126I, h126E, rfl⟩
                refine ⟨_, rfl, ?_⟩
                have h126F := E0.tr (h126E.wk (W' := [11, 13, 100, 105, 107, 109, 110, 112, 114, 115, 117, 119, 120, 122, 124]) (by first | rfl | simp))
                show pw X d h126 167 91 [some (.ref 16), some (pw_i mk), some (pw_i z)] [] _
                refine pw_ld E (pc' := 92) (st' := [.ref 16]) rfl (fun _ => rfl) ?_
                refine pw_getR (b := 116) h126I E (c := 0) (k := 18) (pc' := 95) rfl rfl rfl rfl rfl rfl rfl ?_
                refine pw_ld E (pc' := 96) (st' := [.ref 16, .ref 116]) rfl (fun _ => rfl) ?_
                refine pw_getR (b := 120) h126I E (c := 0) (k := 19) (pc' := 99) rfl rfl rfl rfl rfl rfl rfl ?_
                refine pw_ld E (pc' := 100) (st' := [pw_i mk, .ref 120, .ref 116]) rfl (fun _ => rfl) ?_
                refine pw_aald (b := 136) h126I E (c := 104) (pc' := 101) rfl rfl (by decide) rfl (by decide) (by omega) (by omega) (by rw [hj7]; rfl) rfl ?_
                obtain ⟨f129l, f129h, -⟩ := pw_obj (c := 120) h126I rfl
                refine pw_call (m' := 33) (As := [.ref 136]) (rest := [.ref 116]) (ls'' := [some (.ref 136)]) (by omega) E rfl (fun _ => pw_iV rfl rfl rfl rfl (pw_cellI f129h rfl)) (rfl : pm_ent 33 = some (1, 1, 3, 0, pmc_33)) rfl rfl (cm_33_120m (by omega) h126I ) ?_
                rintro u131 v130 ⟨rfl, x132, rfl, hx132a, hx132b, hx132r⟩
                refine ⟨_, rfl, ?_⟩
                show pw X d h126 167 104 [some (.ref 16), some (pw_i mk), some (pw_i z)] [pw_i x132, .ref 116] _
                have hx132r : x132 = pw_g h126 120 2 := hx132r
                obtain ⟨f133l, f133h, -⟩ := pw_obj (c := 100) h126I rfl
                refine pw_call (m' := 41) (As := [.ref 116, pw_i x132]) (rest := []) (ls'' := [some (.ref 116), some (pw_i x132)]) (by omega) E rfl (fun _ => pw_iV rfl rfl rfl rfl (pw_cellI f133h rfl)) (rfl : pm_ent 41 = some (2, 2, 4, 4, pmc_41)) rfl rfl (cm_41_m (by omega) h126I (x132) (by omega) (by omega)) ?_
                rintro h134 v135 ⟨h134I, h134E, hqcutTo, rfl⟩
                refine ⟨_, rfl, ?_⟩
                have h134F := h126F.tr (h134E.wk (W' := [11, 13, 100, 105, 107, 109, 110, 112, 114, 115, 117, 119, 120, 122, 124]) (by first | rfl | simp))
                show pw X d h134 167 107 [some (.ref 16), some (pw_i mk), some (pw_i z)] [] _
                refine pw_ld E (pc' := 108) (st' := [pw_i 1]) rfl (fun _ => rfl) ?_
                refine pw_zret E rfl (by omega) ?_
                have hcc : pw_g h134 100 3 = min (pw_g h126 100 3) _ := hqcutTo
                have h100 : pw_g h126 100 3 = pw_g h 100 3 := (pw_Eg (c := 100) I h126E rfl rfl 3 : pw_g h126 100 3 = pw_g h 100 3)
                have hf0 : pw_g h126 105 2 = pw_g h 105 2 := (pw_Eg (c := 105) I h126E rfl rfl 2 : pw_g h126 105 2 = pw_g h 105 2)
                have hf1 : pw_g h126 110 2 = pw_g h 110 2 := (pw_Eg (c := 110) I h126E rfl rfl 2 : pw_g h126 110 2 = pw_g h 110 2)
                have hf2 : pw_g h126 115 2 = pw_g h 115 2 := (pw_Eg (c := 115) I h126E rfl rfl 2 : pw_g h126 115 2 = pw_g h 115 2)
                have hf3 : pw_g h126 120 2 = pw_g h 120 2 := (pw_Eg (c := 120) I h126E rfl rfl 2 : pw_g h126 120 2 = pw_g h 120 2)
                have hM : pw_MT (pw_g h 100 3) (pw_g h134 100 3) (pw_om h) (pw_lm h) (pw_om h134) (pw_lm h134) mk z 1 := by
                  rcases (by omega : mk = 0 ∨ mk = 1 ∨ mk = 2 ∨ mk = 3) with rfl | rfl | rfl | rfl
                  · first
                    | exact Or.inr (Or.inr (Or.inr ⟨by omega, by omega, by omega, (by show pw_g h 105 3 ≠ 0; omega), (by show pw_g h 105 2 ≤ pw_g h 100 3; omega), rfl, (by show pw_g h134 100 3 = pw_g h 105 2; omega), (pw_i4 ⟨((pw_Eg (c := 105) h126I h134E rfl rfl 2 : pw_g h134 105 2 = pw_g h126 105 2)).trans (pw_Eg (c := 105) I h126E rfl rfl 2 : pw_g h126 105 2 = pw_g h 105 2), ((pw_Eg (c := 105) h126I h134E rfl rfl 3 : pw_g h134 105 3 = pw_g h126 105 3)).trans (pw_Eg (c := 105) I h126E rfl rfl 3 : pw_g h126 105 3 = pw_g h 105 3)⟩ ⟨((pw_Eg (c := 110) h126I h134E rfl rfl 2 : pw_g h134 110 2 = pw_g h126 110 2)).trans (pw_Eg (c := 110) I h126E rfl rfl 2 : pw_g h126 110 2 = pw_g h 110 2), ((pw_Eg (c := 110) h126I h134E rfl rfl 3 : pw_g h134 110 3 = pw_g h126 110 3)).trans (pw_Eg (c := 110) I h126E rfl rfl 3 : pw_g h126 110 3 = pw_g h 110 3)⟩ ⟨((pw_Eg (c := 115) h126I h134E rfl rfl 2 : pw_g h134 115 2 = pw_g h126 115 2)).trans (pw_Eg (c := 115) I h126E rfl rfl 2 : pw_g h126 115 2 = pw_g h 115 2), ((pw_Eg (c := 115) h126I h134E rfl rfl 3 : pw_g h134 115 3 = pw_g h126 115 3)).trans (pw_Eg (c := 115) I h126E rfl rfl 3 : pw_g h126 115 3 = pw_g h 115 3)⟩ ⟨((pw_Eg (c := 120) h126I h134E rfl rfl 2 : pw_g h134 120 2 = pw_g h126 120 2)).trans (pw_Eg (c := 120) I h126E rfl rfl 2 : pw_g h126 120 2 = pw_g h 120 2), ((pw_Eg (c := 120) h126I h134E rfl rfl 3 : pw_g h134 120 3 = pw_g h126 120 3)).trans (pw_Eg (c := 120) I h126E rfl rfl 3 : pw_g h126 120 3 = pw_g h 120 3)⟩)⟩))
                    | (exfalso; omega)
                  · first
                    | exact Or.inr (Or.inr (Or.inr ⟨by omega, by omega, by omega, (by show pw_g h 110 3 ≠ 0; omega), (by show pw_g h 110 2 ≤ pw_g h 100 3; omega), rfl, (by show pw_g h134 100 3 = pw_g h 110 2; omega), (pw_i4 ⟨((pw_Eg (c := 105) h126I h134E rfl rfl 2 : pw_g h134 105 2 = pw_g h126 105 2)).trans (pw_Eg (c := 105) I h126E rfl rfl 2 : pw_g h126 105 2 = pw_g h 105 2), ((pw_Eg (c := 105) h126I h134E rfl rfl 3 : pw_g h134 105 3 = pw_g h126 105 3)).trans (pw_Eg (c := 105) I h126E rfl rfl 3 : pw_g h126 105 3 = pw_g h 105 3)⟩ ⟨((pw_Eg (c := 110) h126I h134E rfl rfl 2 : pw_g h134 110 2 = pw_g h126 110 2)).trans (pw_Eg (c := 110) I h126E rfl rfl 2 : pw_g h126 110 2 = pw_g h 110 2), ((pw_Eg (c := 110) h126I h134E rfl rfl 3 : pw_g h134 110 3 = pw_g h126 110 3)).trans (pw_Eg (c := 110) I h126E rfl rfl 3 : pw_g h126 110 3 = pw_g h 110 3)⟩ ⟨((pw_Eg (c := 115) h126I h134E rfl rfl 2 : pw_g h134 115 2 = pw_g h126 115 2)).trans (pw_Eg (c := 115) I h126E rfl rfl 2 : pw_g h126 115 2 = pw_g h 115 2), ((pw_Eg (c := 115) h126I h134E rfl rfl 3 : pw_g h134 115 3 = pw_g h126 115 3)).trans (pw_Eg (c := 115) I h126E rfl rfl 3 : pw_g h126 115 3 = pw_g h 115 3)⟩ ⟨((pw_Eg (c := 120) h126I h134E rfl rfl 2 : pw_g h134 120 2 = pw_g h126 120 2)).trans (pw_Eg (c := 120) I h126E rfl rfl 2 : pw_g h126 120 2 = pw_g h 120 2), ((pw_Eg (c := 120) h126I h134E rfl rfl 3 : pw_g h134 120 3 = pw_g h126 120 3)).trans (pw_Eg (c := 120) I h126E rfl rfl 3 : pw_g h126 120 3 = pw_g h 120 3)⟩)⟩))
                    | (exfalso; omega)
                  · first
                    | exact Or.inr (Or.inr (Or.inr ⟨by omega, by omega, by omega, (by show pw_g h 115 3 ≠ 0; omega), (by show pw_g h 115 2 ≤ pw_g h 100 3; omega), rfl, (by show pw_g h134 100 3 = pw_g h 115 2; omega), (pw_i4 ⟨((pw_Eg (c := 105) h126I h134E rfl rfl 2 : pw_g h134 105 2 = pw_g h126 105 2)).trans (pw_Eg (c := 105) I h126E rfl rfl 2 : pw_g h126 105 2 = pw_g h 105 2), ((pw_Eg (c := 105) h126I h134E rfl rfl 3 : pw_g h134 105 3 = pw_g h126 105 3)).trans (pw_Eg (c := 105) I h126E rfl rfl 3 : pw_g h126 105 3 = pw_g h 105 3)⟩ ⟨((pw_Eg (c := 110) h126I h134E rfl rfl 2 : pw_g h134 110 2 = pw_g h126 110 2)).trans (pw_Eg (c := 110) I h126E rfl rfl 2 : pw_g h126 110 2 = pw_g h 110 2), ((pw_Eg (c := 110) h126I h134E rfl rfl 3 : pw_g h134 110 3 = pw_g h126 110 3)).trans (pw_Eg (c := 110) I h126E rfl rfl 3 : pw_g h126 110 3 = pw_g h 110 3)⟩ ⟨((pw_Eg (c := 115) h126I h134E rfl rfl 2 : pw_g h134 115 2 = pw_g h126 115 2)).trans (pw_Eg (c := 115) I h126E rfl rfl 2 : pw_g h126 115 2 = pw_g h 115 2), ((pw_Eg (c := 115) h126I h134E rfl rfl 3 : pw_g h134 115 3 = pw_g h126 115 3)).trans (pw_Eg (c := 115) I h126E rfl rfl 3 : pw_g h126 115 3 = pw_g h 115 3)⟩ ⟨((pw_Eg (c := 120) h126I h134E rfl rfl 2 : pw_g h134 120 2 = pw_g h126 120 2)).trans (pw_Eg (c := 120) I h126E rfl rfl 2 : pw_g h126 120 2 = pw_g h 120 2), ((pw_Eg (c := 120) h126I h134E rfl rfl 3 : pw_g h134 120 3 = pw_g h126 120 3)).trans (pw_Eg (c := 120) I h126E rfl rfl 3 : pw_g h126 120 3 = pw_g h 120 3)⟩)⟩))
                    | (exfalso; omega)
                  · first
                    | exact Or.inr (Or.inr (Or.inr ⟨by omega, by omega, by omega, (by show pw_g h 120 3 ≠ 0; omega), (by show pw_g h 120 2 ≤ pw_g h 100 3; omega), rfl, (by show pw_g h134 100 3 = pw_g h 120 2; omega), (pw_i4 ⟨((pw_Eg (c := 105) h126I h134E rfl rfl 2 : pw_g h134 105 2 = pw_g h126 105 2)).trans (pw_Eg (c := 105) I h126E rfl rfl 2 : pw_g h126 105 2 = pw_g h 105 2), ((pw_Eg (c := 105) h126I h134E rfl rfl 3 : pw_g h134 105 3 = pw_g h126 105 3)).trans (pw_Eg (c := 105) I h126E rfl rfl 3 : pw_g h126 105 3 = pw_g h 105 3)⟩ ⟨((pw_Eg (c := 110) h126I h134E rfl rfl 2 : pw_g h134 110 2 = pw_g h126 110 2)).trans (pw_Eg (c := 110) I h126E rfl rfl 2 : pw_g h126 110 2 = pw_g h 110 2), ((pw_Eg (c := 110) h126I h134E rfl rfl 3 : pw_g h134 110 3 = pw_g h126 110 3)).trans (pw_Eg (c := 110) I h126E rfl rfl 3 : pw_g h126 110 3 = pw_g h 110 3)⟩ ⟨((pw_Eg (c := 115) h126I h134E rfl rfl 2 : pw_g h134 115 2 = pw_g h126 115 2)).trans (pw_Eg (c := 115) I h126E rfl rfl 2 : pw_g h126 115 2 = pw_g h 115 2), ((pw_Eg (c := 115) h126I h134E rfl rfl 3 : pw_g h134 115 3 = pw_g h126 115 3)).trans (pw_Eg (c := 115) I h126E rfl rfl 3 : pw_g h126 115 3 = pw_g h 115 3)⟩ ⟨((pw_Eg (c := 120) h126I h134E rfl rfl 2 : pw_g h134 120 2 = pw_g h126 120 2)).trans (pw_Eg (c := 120) I h126E rfl rfl 2 : pw_g h126 120 2 = pw_g h 120 2), ((pw_Eg (c := 120) h126I h134E rfl rfl 3 : pw_g h134 120 3 = pw_g h126 120 3)).trans (pw_Eg (c := 120) I h126E rfl rfl 3 : pw_g h126 120 3 = pw_g h 120 3)⟩)⟩))
                    | (exfalso; omega)
                exact ⟨h134I, h134F, ⟨_, rfl, by omega, by omega, hM⟩⟩
              · intro hc136
                have hc136 : ¬ (x122 ≤ x117) := hc136
                refine pw_ld E (pc' := 73) (st' := [pw_i 0]) rfl (fun _ => rfl) ?_
                refine pw_zret E rfl (by omega) ?_
                have hsame : ∀ i : Nat, i < 4 → pw_om h i = pw_om h i ∧ pw_lm h i = pw_lm h i := fun _ _ => ⟨rfl, rfl⟩
                have hM : pw_MT (pw_g h 100 3) (pw_g h 100 3) (pw_om h) (pw_lm h) (pw_om h) (pw_lm h) mk z 0 := by
                  rcases (by omega : ¬ (0 ≤ mk ∧ mk ≤ 3) ∨ mk = 0 ∨ mk = 1 ∨ mk = 2 ∨ mk = 3) with hq | rfl | rfl | rfl | rfl
                  · exact Or.inl ⟨hq, rfl, rfl, hsame⟩
                  · exact Or.inr (Or.inr (Or.inl ⟨by omega, by omega, by omega, (by show pw_g h 105 3 = 0 ∨ pw_g h 100 3 < pw_g h 105 2; omega), rfl, rfl, hsame⟩))
                  · exact Or.inr (Or.inr (Or.inl ⟨by omega, by omega, by omega, (by show pw_g h 110 3 = 0 ∨ pw_g h 100 3 < pw_g h 110 2; omega), rfl, rfl, hsame⟩))
                  · exact Or.inr (Or.inr (Or.inl ⟨by omega, by omega, by omega, (by show pw_g h 115 3 = 0 ∨ pw_g h 100 3 < pw_g h 115 2; omega), rfl, rfl, hsame⟩))
                  · exact Or.inr (Or.inr (Or.inl ⟨by omega, by omega, by omega, (by show pw_g h 120 3 = 0 ∨ pw_g h 100 3 < pw_g h 120 2; omega), rfl, rfl, hsame⟩))
                exact ⟨I, E0, ⟨_, rfl, by omega, by omega, hM⟩⟩
          · have hb137 : x110 = 0 := by omega
            refine pw_if E (pc' := 72) rfl (by decide) (by omega) (by omega) ?_ ?_
            · intro hc138
              have hc138 : x110 = (0 : Int) := hc138
              refine pw_ld E (pc' := 73) (st' := [pw_i 0]) rfl (fun _ => rfl) ?_
              refine pw_zret E rfl (by omega) ?_
              have hsame : ∀ i : Nat, i < 4 → pw_om h i = pw_om h i ∧ pw_lm h i = pw_lm h i := fun _ _ => ⟨rfl, rfl⟩
              have hM : pw_MT (pw_g h 100 3) (pw_g h 100 3) (pw_om h) (pw_lm h) (pw_om h) (pw_lm h) mk z 0 := by
                rcases (by omega : ¬ (0 ≤ mk ∧ mk ≤ 3) ∨ mk = 0 ∨ mk = 1 ∨ mk = 2 ∨ mk = 3) with hq | rfl | rfl | rfl | rfl
                · exact Or.inl ⟨hq, rfl, rfl, hsame⟩
                · exact Or.inr (Or.inr (Or.inl ⟨by omega, by omega, by omega, (by show pw_g h 105 3 = 0 ∨ pw_g h 100 3 < pw_g h 105 2; omega), rfl, rfl, hsame⟩))
                · exact Or.inr (Or.inr (Or.inl ⟨by omega, by omega, by omega, (by show pw_g h 110 3 = 0 ∨ pw_g h 100 3 < pw_g h 110 2; omega), rfl, rfl, hsame⟩))
                · exact Or.inr (Or.inr (Or.inl ⟨by omega, by omega, by omega, (by show pw_g h 115 3 = 0 ∨ pw_g h 100 3 < pw_g h 115 2; omega), rfl, rfl, hsame⟩))
                · exact Or.inr (Or.inr (Or.inl ⟨by omega, by omega, by omega, (by show pw_g h 120 3 = 0 ∨ pw_g h 100 3 < pw_g h 120 2; omega), rfl, rfl, hsame⟩))
              exact ⟨I, E0, ⟨_, rfl, by omega, by omega, hM⟩⟩
            · intro hc139
              have hc139 : ¬ (x110 = (0 : Int)) := hc139
              exfalso; omega
      · intro hc140
        have hc140 : ¬ (z ≠ (0 : Int)) := hc140
        refine pw_ld E (pc' := 16) (st' := [.ref 16]) rfl (fun _ => rfl) ?_
        refine pw_getR (b := 120) I E (c := 0) (k := 19) (pc' := 19) rfl rfl rfl rfl rfl rfl rfl ?_
        refine pw_ld E (pc' := 20) (st' := [pw_i mk, .ref 120]) rfl (fun _ => rfl) ?_
        rcases (by omega : mk = 0 ∨ mk = 1 ∨ mk = 2 ∨ mk = 3) with hj141 | hj141 | hj141 | hj141
        · refine pw_aald (b := 121) I E (c := 104) (pc' := 21) rfl rfl (by decide) rfl (by decide) (by omega) (by omega) (by rw [hj141]; rfl) rfl ?_
          refine pw_ld E (pc' := 22) (st' := [.ref 16, .ref 121]) rfl (fun _ => rfl) ?_
          refine pw_getR (b := 26) I E (c := 0) (k := 2) (pc' := 25) rfl rfl rfl rfl rfl rfl rfl ?_
          refine pw_ld E (pc' := 26) (st' := [.ref 16, .ref 26, .ref 121]) rfl (fun _ => rfl) ?_
          refine pw_getR (b := 28) I E (c := 0) (k := 3) (pc' := 29) rfl rfl rfl rfl rfl rfl rfl ?_
          refine pw_ld E (pc' := 30) (st' := [.ref 16, .ref 28, .ref 26, .ref 121]) rfl (fun _ => rfl) ?_
          refine pw_getR (b := 116) I E (c := 0) (k := 18) (pc' := 33) rfl rfl rfl rfl rfl rfl rfl ?_
          obtain ⟨f142l, f142h, -⟩ := pw_obj (c := 100) I rfl
          refine pw_call (m' := 40) (As := [.ref 116]) (rest := [.ref 28, .ref 26, .ref 121]) (ls'' := [some (.ref 116)]) (by omega) E rfl (fun _ => pw_iV rfl rfl rfl rfl (pw_cellI f142h rfl)) (rfl : pm_ent 40 = some (1, 1, 4, 0, pmc_40)) rfl rfl (cm_40_m (by omega) I ) ?_
          rintro u144 v143 ⟨rfl, x145, rfl, hx145a, hx145b, hx145r⟩
          refine ⟨_, rfl, ?_⟩
          show pw X d h 167 36 [some (.ref 16), some (pw_i mk), some (pw_i z)] [pw_i x145, .ref 28, .ref 26, .ref 121] _
          have hx145r : x145 = pw_g h 100 3 := hx145r
          obtain ⟨f146l, f146h, -⟩ := pw_obj (c := 105) I rfl
          refine pw_call (m' := 31) (As := [.ref 121, .ref 26, .ref 28, pw_i x145]) (rest := []) (ls'' := [some (.ref 121), some (.ref 26), some (.ref 28), some (pw_i x145)]) (by omega) E rfl (fun _ => pw_iV rfl rfl rfl rfl (pw_cellI f146h rfl)) (rfl : pm_ent 31 = some (4, 4, 3, 4, pmc_31)) rfl rfl (cm_31_105m (by omega) I 10 (by unfold pw_Lg; omega) 12 (by unfold pw_Lg; omega) (x145) (by omega) (by omega)) ?_
          rintro h147 v148 ⟨h147I, h147E, hqlay, rfl⟩
          refine ⟨_, rfl, ?_⟩
          have h147F := E0.tr (h147E.wk (W' := [11, 13, 100, 105, 107, 109, 110, 112, 114, 115, 117, 119, 120, 122, 124]) (by first | rfl | simp))
          show pw X d h147 167 39 [some (.ref 16), some (pw_i mk), some (pw_i z)] [] _
          refine pw_ld E (pc' := 40) (st' := [pw_i 1]) rfl (fun _ => rfl) ?_
          refine pw_zret E rfl (by omega) ?_
          have hmj : mk.toNat = 0 := by omega
          have hM : pw_MT (pw_g h 100 3) (pw_g h147 100 3) (pw_om h) (pw_lm h) (pw_om h147) (pw_lm h147) mk z 1 := Or.inr (Or.inl ⟨by omega, by omega, by omega, rfl, (pw_Eg (c := 100) I h147E rfl rfl 3 : pw_g h147 100 3 = pw_g h 100 3), (by rw [hmj]; show pw_g h147 105 2 = pw_g h 100 3; omega), (by rw [hmj]; exact hqlay.2), pw_i4 (fun e => absurd (by omega) e) (fun _ => ⟨(pw_Eg (c := 110) I h147E rfl rfl 2 : pw_g h147 110 2 = pw_g h 110 2), (pw_Eg (c := 110) I h147E rfl rfl 3 : pw_g h147 110 3 = pw_g h 110 3)⟩) (fun _ => ⟨(pw_Eg (c := 115) I h147E rfl rfl 2 : pw_g h147 115 2 = pw_g h 115 2), (pw_Eg (c := 115) I h147E rfl rfl 3 : pw_g h147 115 3 = pw_g h 115 3)⟩) (fun _ => ⟨(pw_Eg (c := 120) I h147E rfl rfl 2 : pw_g h147 120 2 = pw_g h 120 2), (pw_Eg (c := 120) I h147E rfl rfl 3 : pw_g h147 120 3 = pw_g h 120 3)⟩)⟩)
          exact ⟨h147I, h147F, ⟨_, rfl, by omega, by omega, hM⟩⟩
        · refine pw_aald (b := 126) I E (c := 104) (pc' := 21) rfl rfl (by decide) rfl (by decide) (by omega) (by omega) (by rw [hj141]; rfl) rfl ?_
          refine pw_ld E (pc' := 22) (st' := [.ref 16, .ref 126]) rfl (fun _ => rfl) ?_
          refine pw_getR (b := 26) I E (c := 0) (k := 2) (pc' := 25) rfl rfl rfl rfl rfl rfl rfl ?_
          refine pw_ld E (pc' := 26) (st' := [.ref 16, .ref 26, .ref 126]) rfl (fun _ => rfl) ?_
          refine pw_getR (b := 28) I E (c := 0) (k := 3) (pc' := 29) rfl rfl rfl rfl rfl rfl rfl ?_
          refine pw_ld E (pc' := 30) (st' := [.ref 16, .ref 28, .ref 26, .ref 126]) rfl (fun _ => rfl) ?_
          refine pw_getR (b := 116) I E (c := 0) (k := 18) (pc' := 33) rfl rfl rfl rfl rfl rfl rfl ?_
          obtain ⟨f149l, f149h, -⟩ := pw_obj (c := 100) I rfl
          refine pw_call (m' := 40) (As := [.ref 116]) (rest := [.ref 28, .ref 26, .ref 126]) (ls'' := [some (.ref 116)]) (by omega) E rfl (fun _ => pw_iV rfl rfl rfl rfl (pw_cellI f149h rfl)) (rfl : pm_ent 40 = some (1, 1, 4, 0, pmc_40)) rfl rfl (cm_40_m (by omega) I ) ?_
          rintro u151 v150 ⟨rfl, x152, rfl, hx152a, hx152b, hx152r⟩
          refine ⟨_, rfl, ?_⟩
          show pw X d h 167 36 [some (.ref 16), some (pw_i mk), some (pw_i z)] [pw_i x152, .ref 28, .ref 26, .ref 126] _
          have hx152r : x152 = pw_g h 100 3 := hx152r
          obtain ⟨f153l, f153h, -⟩ := pw_obj (c := 110) I rfl
          refine pw_call (m' := 31) (As := [.ref 126, .ref 26, .ref 28, pw_i x152]) (rest := []) (ls'' := [some (.ref 126), some (.ref 26), some (.ref 28), some (pw_i x152)]) (by omega) E rfl (fun _ => pw_iV rfl rfl rfl rfl (pw_cellI f153h rfl)) (rfl : pm_ent 31 = some (4, 4, 3, 4, pmc_31)) rfl rfl (cm_31_110m (by omega) I 10 (by unfold pw_Lg; omega) 12 (by unfold pw_Lg; omega) (x152) (by omega) (by omega)) ?_
          rintro h154 v155 ⟨h154I, h154E, hqlay, rfl⟩
          refine ⟨_, rfl, ?_⟩
          have h154F := E0.tr (h154E.wk (W' := [11, 13, 100, 105, 107, 109, 110, 112, 114, 115, 117, 119, 120, 122, 124]) (by first | rfl | simp))
          show pw X d h154 167 39 [some (.ref 16), some (pw_i mk), some (pw_i z)] [] _
          refine pw_ld E (pc' := 40) (st' := [pw_i 1]) rfl (fun _ => rfl) ?_
          refine pw_zret E rfl (by omega) ?_
          have hmj : mk.toNat = 1 := by omega
          have hM : pw_MT (pw_g h 100 3) (pw_g h154 100 3) (pw_om h) (pw_lm h) (pw_om h154) (pw_lm h154) mk z 1 := Or.inr (Or.inl ⟨by omega, by omega, by omega, rfl, (pw_Eg (c := 100) I h154E rfl rfl 3 : pw_g h154 100 3 = pw_g h 100 3), (by rw [hmj]; show pw_g h154 110 2 = pw_g h 100 3; omega), (by rw [hmj]; exact hqlay.2), pw_i4 (fun _ => ⟨(pw_Eg (c := 105) I h154E rfl rfl 2 : pw_g h154 105 2 = pw_g h 105 2), (pw_Eg (c := 105) I h154E rfl rfl 3 : pw_g h154 105 3 = pw_g h 105 3)⟩) (fun e => absurd (by omega) e) (fun _ => ⟨(pw_Eg (c := 115) I h154E rfl rfl 2 : pw_g h154 115 2 = pw_g h 115 2), (pw_Eg (c := 115) I h154E rfl rfl 3 : pw_g h154 115 3 = pw_g h 115 3)⟩) (fun _ => ⟨(pw_Eg (c := 120) I h154E rfl rfl 2 : pw_g h154 120 2 = pw_g h 120 2), (pw_Eg (c := 120) I h154E rfl rfl 3 : pw_g h154 120 3 = pw_g h 120 3)⟩)⟩)
          exact ⟨h154I, h154F, ⟨_, rfl, by omega, by omega, hM⟩⟩
        · refine pw_aald (b := 131) I E (c := 104) (pc' := 21) rfl rfl (by decide) rfl (by decide) (by omega) (by omega) (by rw [hj141]; rfl) rfl ?_
          refine pw_ld E (pc' := 22) (st' := [.ref 16, .ref 131]) rfl (fun _ => rfl) ?_
          refine pw_getR (b := 26) I E (c := 0) (k := 2) (pc' := 25) rfl rfl rfl rfl rfl rfl rfl ?_
          refine pw_ld E (pc' := 26) (st' := [.ref 16, .ref 26, .ref 131]) rfl (fun _ => rfl) ?_
          refine pw_getR (b := 28) I E (c := 0) (k := 3) (pc' := 29) rfl rfl rfl rfl rfl rfl rfl ?_
          refine pw_ld E (pc' := 30) (st' := [.ref 16, .ref 28, .ref 26, .ref 131]) rfl (fun _ => rfl) ?_
          refine pw_getR (b := 116) I E (c := 0) (k := 18) (pc' := 33) rfl rfl rfl rfl rfl rfl rfl ?_
          obtain ⟨f156l, f156h, -⟩ := pw_obj (c := 100) I rfl
          refine pw_call (m' := 40) (As := [.ref 116]) (rest := [.ref 28, .ref 26, .ref 131]) (ls'' := [some (.ref 116)]) (by omega) E rfl (fun _ => pw_iV rfl rfl rfl rfl (pw_cellI f156h rfl)) (rfl : pm_ent 40 = some (1, 1, 4, 0, pmc_40)) rfl rfl (cm_40_m (by omega) I ) ?_
          rintro u158 v157 ⟨rfl, x159, rfl, hx159a, hx159b, hx159r⟩
          refine ⟨_, rfl, ?_⟩
          show pw X d h 167 36 [some (.ref 16), some (pw_i mk), some (pw_i z)] [pw_i x159, .ref 28, .ref 26, .ref 131] _
          have hx159r : x159 = pw_g h 100 3 := hx159r
          obtain ⟨f160l, f160h, -⟩ := pw_obj (c := 115) I rfl
          refine pw_call (m' := 31) (As := [.ref 131, .ref 26, .ref 28, pw_i x159]) (rest := []) (ls'' := [some (.ref 131), some (.ref 26), some (.ref 28), some (pw_i x159)]) (by omega) E rfl (fun _ => pw_iV rfl rfl rfl rfl (pw_cellI f160h rfl)) (rfl : pm_ent 31 = some (4, 4, 3, 4, pmc_31)) rfl rfl (cm_31_115m (by omega) I 10 (by unfold pw_Lg; omega) 12 (by unfold pw_Lg; omega) (x159) (by omega) (by omega)) ?_
          rintro h161 v162 ⟨h161I, h161E, hqlay, rfl⟩
          refine ⟨_, rfl, ?_⟩
          have h161F := E0.tr (h161E.wk (W' := [11, 13, 100, 105, 107, 109, 110, 112, 114, 115, 117, 119, 120, 122, 124]) (by first | rfl | simp))
          show pw X d h161 167 39 [some (.ref 16), some (pw_i mk), some (pw_i z)] [] _
          refine pw_ld E (pc' := 40) (st' := [pw_i 1]) rfl (fun _ => rfl) ?_
          refine pw_zret E rfl (by omega) ?_
          have hmj : mk.toNat = 2 := by omega
          have hM : pw_MT (pw_g h 100 3) (pw_g h161 100 3) (pw_om h) (pw_lm h) (pw_om h161) (pw_lm h161) mk z 1 := Or.inr (Or.inl ⟨by omega, by omega, by omega, rfl, (pw_Eg (c := 100) I h161E rfl rfl 3 : pw_g h161 100 3 = pw_g h 100 3), (by rw [hmj]; show pw_g h161 115 2 = pw_g h 100 3; omega), (by rw [hmj]; exact hqlay.2), pw_i4 (fun _ => ⟨(pw_Eg (c := 105) I h161E rfl rfl 2 : pw_g h161 105 2 = pw_g h 105 2), (pw_Eg (c := 105) I h161E rfl rfl 3 : pw_g h161 105 3 = pw_g h 105 3)⟩) (fun _ => ⟨(pw_Eg (c := 110) I h161E rfl rfl 2 : pw_g h161 110 2 = pw_g h 110 2), (pw_Eg (c := 110) I h161E rfl rfl 3 : pw_g h161 110 3 = pw_g h 110 3)⟩) (fun e => absurd (by omega) e) (fun _ => ⟨(pw_Eg (c := 120) I h161E rfl rfl 2 : pw_g h161 120 2 = pw_g h 120 2), (pw_Eg (c := 120) I h161E rfl rfl 3 : pw_g h161 120 3 = pw_g h 120 3)⟩)⟩)
          exact ⟨h161I, h161F, ⟨_, rfl, by omega, by omega, hM⟩⟩
        · refine pw_aald (b := 136) I E (c := 104) (pc' := 21) rfl rfl (by decide) rfl (by decide) (by omega) (by omega) (by rw [hj141]; rfl) rfl ?_
          refine pw_ld E (pc' := 22) (st' := [.ref 16, .ref 136]) rfl (fun _ => rfl) ?_
          refine pw_getR (b := 26) I E (c := 0) (k := 2) (pc' := 25) rfl rfl rfl rfl rfl rfl rfl ?_
          refine pw_ld E (pc' := 26) (st' := [.ref 16, .ref 26, .ref 136]) rfl (fun _ => rfl) ?_
          refine pw_getR (b := 28) I E (c := 0) (k := 3) (pc' := 29) rfl rfl rfl rfl rfl rfl rfl ?_
          refine pw_ld E (pc' := 30) (st' := [.ref 16, .ref 28, .ref 26, .ref 136]) rfl (fun _ => rfl) ?_
          refine pw_getR (b := 116) I E (c := 0) (k := 18) (pc' := 33) rfl rfl rfl rfl rfl rfl rfl ?_
          obtain ⟨f163l, f163h, -⟩ := pw_obj (c := 100) I rfl
          refine pw_call (m' := 40) (As := [.ref 116]) (rest := [.ref 28, .ref 26, .ref 136]) (ls'' := [some (.ref 116)]) (by omega) E rfl (fun _ => pw_iV rfl rfl rfl rfl (pw_cellI f163h rfl)) (rfl : pm_ent 40 = some (1, 1, 4, 0, pmc_40)) rfl rfl (cm_40_m (by omega) I ) ?_
          rintro u165 v164 ⟨rfl, x166, rfl, hx166a, hx166b, hx166r⟩
          refine ⟨_, rfl, ?_⟩
          show pw X d h 167 36 [some (.ref 16), some (pw_i mk), some (pw_i z)] [pw_i x166, .ref 28, .ref 26, .ref 136] _
          have hx166r : x166 = pw_g h 100 3 := hx166r
          obtain ⟨f167l, f167h, -⟩ := pw_obj (c := 120) I rfl
          refine pw_call (m' := 31) (As := [.ref 136, .ref 26, .ref 28, pw_i x166]) (rest := []) (ls'' := [some (.ref 136), some (.ref 26), some (.ref 28), some (pw_i x166)]) (by omega) E rfl (fun _ => pw_iV rfl rfl rfl rfl (pw_cellI f167h rfl)) (rfl : pm_ent 31 = some (4, 4, 3, 4, pmc_31)) rfl rfl (cm_31_120m (by omega) I 10 (by unfold pw_Lg; omega) 12 (by unfold pw_Lg; omega) (x166) (by omega) (by omega)) ?_
          rintro h168 v169 ⟨h168I, h168E, hqlay, rfl⟩
          refine ⟨_, rfl, ?_⟩
          have h168F := E0.tr (h168E.wk (W' := [11, 13, 100, 105, 107, 109, 110, 112, 114, 115, 117, 119, 120, 122, 124]) (by first | rfl | simp))
          show pw X d h168 167 39 [some (.ref 16), some (pw_i mk), some (pw_i z)] [] _
          refine pw_ld E (pc' := 40) (st' := [pw_i 1]) rfl (fun _ => rfl) ?_
          refine pw_zret E rfl (by omega) ?_
          have hmj : mk.toNat = 3 := by omega
          have hM : pw_MT (pw_g h 100 3) (pw_g h168 100 3) (pw_om h) (pw_lm h) (pw_om h168) (pw_lm h168) mk z 1 := Or.inr (Or.inl ⟨by omega, by omega, by omega, rfl, (pw_Eg (c := 100) I h168E rfl rfl 3 : pw_g h168 100 3 = pw_g h 100 3), (by rw [hmj]; show pw_g h168 120 2 = pw_g h 100 3; omega), (by rw [hmj]; exact hqlay.2), pw_i4 (fun _ => ⟨(pw_Eg (c := 105) I h168E rfl rfl 2 : pw_g h168 105 2 = pw_g h 105 2), (pw_Eg (c := 105) I h168E rfl rfl 3 : pw_g h168 105 3 = pw_g h 105 3)⟩) (fun _ => ⟨(pw_Eg (c := 110) I h168E rfl rfl 2 : pw_g h168 110 2 = pw_g h 110 2), (pw_Eg (c := 110) I h168E rfl rfl 3 : pw_g h168 110 3 = pw_g h 110 3)⟩) (fun _ => ⟨(pw_Eg (c := 115) I h168E rfl rfl 2 : pw_g h168 115 2 = pw_g h 115 2), (pw_Eg (c := 115) I h168E rfl rfl 3 : pw_g h168 115 3 = pw_g h 115 3)⟩) (fun e => absurd (by omega) e)⟩)
          exact ⟨h168I, h168F, ⟨_, rfl, by omega, by omega, hM⟩⟩
    · intro hc170
      have hc170 : ¬ (x3 ≠ (0 : Int)) := hc170
      exfalso; omega
  · have hb171 : x3 = 0 := by omega
    refine pw_if E (pc' := 11) rfl (by decide) (by omega) (by omega) ?_ ?_
    · intro hc172
      have hc172 : x3 ≠ (0 : Int) := hc172
      exfalso; omega
    · intro hc173
      have hc173 : ¬ (x3 ≠ (0 : Int)) := hc173
      refine pw_ld E (pc' := 10) (st' := [pw_i 0]) rfl (fun _ => rfl) ?_
      refine pw_zret E rfl (by omega) ?_
      have hsame : ∀ i : Nat, i < 4 → pw_om h i = pw_om h i ∧ pw_lm h i = pw_lm h i := fun _ _ => ⟨rfl, rfl⟩
      have hM : pw_MT (pw_g h 100 3) (pw_g h 100 3) (pw_om h) (pw_lm h) (pw_om h) (pw_lm h) mk z 0 := by
        rcases (by omega : ¬ (0 ≤ mk ∧ mk ≤ 3) ∨ mk = 0 ∨ mk = 1 ∨ mk = 2 ∨ mk = 3) with hq | rfl | rfl | rfl | rfl
        · exact Or.inl ⟨hq, rfl, rfl, hsame⟩
        · exact Or.inr (Or.inr (Or.inl ⟨by omega, by omega, by omega, (by show pw_g h 105 3 = 0 ∨ pw_g h 100 3 < pw_g h 105 2; omega), rfl, rfl, hsame⟩))
        · exact Or.inr (Or.inr (Or.inl ⟨by omega, by omega, by omega, (by show pw_g h 110 3 = 0 ∨ pw_g h 100 3 < pw_g h 110 2; omega), rfl, rfl, hsame⟩))
        · exact Or.inr (Or.inr (Or.inl ⟨by omega, by omega, by omega, (by show pw_g h 115 3 = 0 ∨ pw_g h 100 3 < pw_g h 115 2; omega), rfl, rfl, hsame⟩))
        · exact Or.inr (Or.inr (Or.inl ⟨by omega, by omega, by omega, (by show pw_g h 120 3 = 0 ∨ pw_g h 100 3 < pw_g h 120 2; omega), rfl, rfl, hsame⟩))
      exact ⟨I, E0, ⟨_, rfl, by omega, by omega, hM⟩⟩
set_option maxHeartbeats 4000000 in
theorem cm_306_m {X : List (Nat × List Value)} {d : Nat} {h : pm_H} (hd : 2 ≤ d) (I : pw_I h) (mk : Int) (hmk1 : (-2147483648) ≤ mk) (hmk2 : mk ≤ 2147483647) (z : Int) (hz1 : 0 ≤ z) (hz2 : z ≤ 1) : pw X d h 306 0 [some (.ref 141), some (pw_i mk), some (pw_i z), none] [] (fun h' v => pw_I h' ∧ pw_E [125, 138, 139, 140, 141, 142, 143, 166, 167, 168, 1041] h h' ∧ ∃ a : Int, v = .inl (some (pw_i a)) ∧ 0 ≤ a ∧ a ≤ 1 ∧ (pw_MT (pw_g h 125 41) (pw_g h' 125 41) (pw_g h 167) (pw_g h 166) (pw_g h' 167) (pw_g h' 166) mk z a)) := by
  have E : pm_ent 306 = some (3, 4, 12, 1, pmc_306) := rfl
  have E0 : pw_E [125, 138, 139, 140, 141, 142, 143, 166, 167, 168, 1041] h h := pw_E.rf _ _
  refine pw_ld E (pc' := 1) (st' := [.ref 141]) rfl (fun _ => rfl) ?_
  refine pw_ld E (pc' := 2) (st' := [pw_i 0, .ref 141]) rfl (fun _ => rfl) ?_
  refine pw_putI I E (c := 125) (k := 0) (pc' := 5) rfl rfl rfl rfl (by omega) (by omega) (by omega) (by omega) rfl rfl ?_
  intro h1I h1E
  generalize h1w : pw_w h 125 0 (pw_i 0) = h1 at h1I h1E ⊢
  have h1F := E0.tr (h1E.wk (W' := [125, 138, 139, 140, 141, 142, 143, 166, 167, 168, 1041]) (by first | rfl | simp))
  refine pw_ld E (pc' := 6) (st' := [pw_i mk]) rfl (fun _ => rfl) ?_
  refine pw_ld E (pc' := 7) (st' := [pw_i 0, pw_i mk]) rfl (fun _ => rfl) ?_
  refine pw_ld E (pc' := 8) (st' := [pw_i 3, pw_i 0, pw_i mk]) rfl (fun _ => rfl) ?_
  refine pw_call (m' := 202) (As := [pw_i mk, pw_i 0, pw_i 3]) (rest := []) (ls'' := [some (pw_i mk), some (pw_i 0), some (pw_i 3)]) (by omega) E rfl (fun _ => pw_iS rfl rfl rfl) (rfl : pm_ent 202 = some (3, 3, 12, 1, pmc_202)) rfl rfl (cm_202 (by omega) h1I (mk) (by omega) (by omega) (0) (by omega) (by omega) (3) (by omega) (by omega)) ?_
  rintro u3 v2 ⟨rfl, x4, rfl, hx4a, hx4b, hx4r⟩
  refine ⟨_, rfl, ?_⟩
  show pw X d h1 306 11 [some (.ref 141), some (pw_i mk), some (pw_i z), none] [pw_i x4] _
  have hx4r : (x4 = 1 ∧ 0 ≤ mk ∧ mk ≤ 3) ∨ (x4 = 0 ∧ ¬ (0 ≤ mk ∧ mk ≤ 3)) := hx4r
  rcases (by omega : x4 = 1 ∨ x4 = 0) with hb5 | hb5
  · have hb5 : x4 = 1 := by omega
    refine pw_if E (pc' := 40) rfl (by decide) (by omega) (by omega) ?_ ?_
    · intro hc6
      have hc6 : x4 = (0 : Int) := hc6
      exfalso; omega
    · intro hc7
      have hc7 : ¬ (x4 = (0 : Int)) := hc7
      refine pw_ld E (pc' := 15) (st' := [pw_i z]) rfl (fun _ => rfl) ?_
      refine pw_if E (pc' := 42) rfl (by decide) (by omega) (by omega) ?_ ?_
      · intro hc8
        have hc8 : z = (0 : Int) := hc8
        refine pw_ld E (pc' := 43) (st' := [pw_i z]) rfl (fun _ => rfl) ?_
        refine pw_if E (pc' := 59) rfl (by decide) (by omega) (by omega) ?_ ?_
        · intro hc9
          have hc9 : z = (0 : Int) := hc9
          refine pw_ld E (pc' := 60) (st' := [.ref 141]) rfl (fun _ => rfl) ?_
          refine pw_getR (b := 182) h1I E (c := 125) (k := 55) (pc' := 63) rfl rfl rfl rfl rfl rfl rfl ?_
          refine pw_ld E (pc' := 64) (st' := [pw_i mk, .ref 182]) rfl (fun _ => rfl) ?_
          refine pw_ld E (pc' := 65) (st' := [pw_i 1, pw_i mk, .ref 182]) rfl (fun _ => rfl) ?_
          refine pw_ast0 h1I E (c := 166) (pc' := 66) rfl rfl rfl (by decide) rfl (by decide) (by omega) (by omega) (pw_b1 (by omega) (by omega)) (by omega) (by omega) (by omega) (by omega) rfl ?_
          intro h10I h10E
          generalize h10w : pw_w h1 166 (mk.toNat) (pw_i 1) = h10 at h10I h10E ⊢
          have h10F := h1F.tr (h10E.wk (W' := [125, 138, 139, 140, 141, 142, 143, 166, 167, 168, 1041]) (by first | rfl | simp))
          refine pw_ld E (pc' := 67) (st' := [.ref 141]) rfl (fun _ => rfl) ?_
          refine pw_getR (b := 183) h10I E (c := 125) (k := 56) (pc' := 70) rfl rfl rfl rfl rfl rfl rfl ?_
          refine pw_ld E (pc' := 71) (st' := [pw_i mk, .ref 183]) rfl (fun _ => rfl) ?_
          refine pw_ld E (pc' := 72) (st' := [.ref 141, pw_i mk, .ref 183]) rfl (fun _ => rfl) ?_
          refine pw_getI h10I E (c := 125) (k := 41) (pc' := 75) rfl rfl rfl rfl rfl rfl (fun hf11a hf11b hf11c hf11d => ?_)
          refine pw_ast0 h10I E (c := 167) (pc' := 76) rfl rfl rfl (by decide) rfl (by decide) (by omega) (by omega) rfl (by omega) (by omega) (by omega) (by omega) rfl ?_
          intro h12I h12E
          generalize h12w : pw_w h10 167 (mk.toNat) (pw_i (pw_g h10 125 41)) = h12 at h12I h12E ⊢
          have h12F := h10F.tr (h12E.wk (W' := [125, 138, 139, 140, 141, 142, 143, 166, 167, 168, 1041]) (by first | rfl | simp))
          refine pw_sip E (pc' := 79) rfl rfl (by decide) ?_
          refine pw_ld E (pc' := 80) (st' := [pw_i mk, pw_i 1728]) rfl (fun _ => rfl) ?_
          refine pw_mul E (pc' := 81) rfl rfl ?_
          refine pw_istn E (pc' := 82) (ls' := [some (.ref 141), some (pw_i mk), some (pw_i z), some (pw_i (1728 * mk))]) rfl rfl rfl rfl ?_
          refine pw_ld E (pc' := 83) (st' := [.ref 141]) rfl (fun _ => rfl) ?_
          refine pw_ld E (pc' := 84) (st' := [pw_i (1728 * mk), .ref 141]) rfl (fun _ => rfl) ?_
          refine pw_ld E (pc' := 85) (st' := [.ref 141, pw_i (1728 * mk), .ref 141]) rfl (fun _ => rfl) ?_
          refine pw_getR (b := 154) h12I E (c := 125) (k := 18) (pc' := 88) rfl rfl rfl rfl rfl rfl rfl ?_
          refine pw_ld E (pc' := 89) (st' := [pw_i z, .ref 154, pw_i (1728 * mk), .ref 141]) rfl (fun _ => rfl) ?_
          obtain ⟨f13l, f13h, -⟩ := pw_obj (c := 125) h12I rfl
          refine pw_call (m' := 307) (As := [.ref 141, pw_i (1728 * mk), .ref 154, pw_i z]) (rest := []) (ls'' := [some (.ref 141), some (pw_i (1728 * mk)), some (.ref 154), some (pw_i z), none]) (by omega) E rfl (fun _ => pw_iV rfl rfl rfl rfl (pw_cellI f13h rfl)) (rfl : pm_ent 307 = some (4, 5, 12, 4, pmc_307)) rfl rfl (cm_307_138 (by omega) h12I (1728 * mk) (by omega) (by omega) (z) (by omega) (by omega)) ?_
          rintro h14 v15 ⟨h14I, h14E, rfl⟩
          refine ⟨_, rfl, ?_⟩
          have h14F := h12F.tr (h14E.wk (W' := [125, 138, 139, 140, 141, 142, 143, 166, 167, 168, 1041]) (by first | rfl | simp))
          show pw X d h14 306 92 [some (.ref 141), some (pw_i mk), some (pw_i z), some (pw_i (1728 * mk))] [] _
          refine pw_ld E (pc' := 93) (st' := [.ref 141]) rfl (fun _ => rfl) ?_
          refine pw_ld E (pc' := 94) (st' := [pw_i (1728 * mk), .ref 141]) rfl (fun _ => rfl) ?_
          refine pw_sip E (pc' := 97) rfl rfl (by decide) ?_
          refine pw_add E (pc' := 98) rfl rfl ?_
          refine pw_ld E (pc' := 99) (st' := [.ref 141, pw_i ((1728 * mk) + 288), .ref 141]) rfl (fun _ => rfl) ?_
          refine pw_getR (b := 155) h14I E (c := 125) (k := 19) (pc' := 102) rfl rfl rfl rfl rfl rfl rfl ?_
          refine pw_ld E (pc' := 103) (st' := [pw_i z, .ref 155, pw_i ((1728 * mk) + 288), .ref 141]) rfl (fun _ => rfl) ?_
          obtain ⟨f16l, f16h, -⟩ := pw_obj (c := 125) h14I rfl
          refine pw_call (m' := 307) (As := [.ref 141, pw_i ((1728 * mk) + 288), .ref 155, pw_i z]) (rest := []) (ls'' := [some (.ref 141), some (pw_i ((1728 * mk) + 288)), some (.ref 155), some (pw_i z), none]) (by omega) E rfl (fun _ => pw_iV rfl rfl rfl rfl (pw_cellI f16h rfl)) (rfl : pm_ent 307 = some (4, 5, 12, 4, pmc_307)) rfl rfl (cm_307_139 (by omega) h14I ((1728 * mk) + 288) (by omega) (by omega) (z) (by omega) (by omega)) ?_
          rintro h17 v18 ⟨h17I, h17E, rfl⟩
          refine ⟨_, rfl, ?_⟩
          have h17F := h14F.tr (h17E.wk (W' := [125, 138, 139, 140, 141, 142, 143, 166, 167, 168, 1041]) (by first | rfl | simp))
          show pw X d h17 306 106 [some (.ref 141), some (pw_i mk), some (pw_i z), some (pw_i (1728 * mk))] [] _
          refine pw_ld E (pc' := 107) (st' := [.ref 141]) rfl (fun _ => rfl) ?_
          refine pw_ld E (pc' := 108) (st' := [pw_i (1728 * mk), .ref 141]) rfl (fun _ => rfl) ?_
          refine pw_sip E (pc' := 111) rfl rfl (by decide) ?_
          refine pw_add E (pc' := 112) rfl rfl ?_
          refine pw_ld E (pc' := 113) (st' := [.ref 141, pw_i ((1728 * mk) + 576), .ref 141]) rfl (fun _ => rfl) ?_
          refine pw_getR (b := 156) h17I E (c := 125) (k := 20) (pc' := 116) rfl rfl rfl rfl rfl rfl rfl ?_
          refine pw_ld E (pc' := 117) (st' := [pw_i z, .ref 156, pw_i ((1728 * mk) + 576), .ref 141]) rfl (fun _ => rfl) ?_
          obtain ⟨f19l, f19h, -⟩ := pw_obj (c := 125) h17I rfl
          refine pw_call (m' := 307) (As := [.ref 141, pw_i ((1728 * mk) + 576), .ref 156, pw_i z]) (rest := []) (ls'' := [some (.ref 141), some (pw_i ((1728 * mk) + 576)), some (.ref 156), some (pw_i z), none]) (by omega) E rfl (fun _ => pw_iV rfl rfl rfl rfl (pw_cellI f19h rfl)) (rfl : pm_ent 307 = some (4, 5, 12, 4, pmc_307)) rfl rfl (cm_307_140 (by omega) h17I ((1728 * mk) + 576) (by omega) (by omega) (z) (by omega) (by omega)) ?_
          rintro h20 v21 ⟨h20I, h20E, rfl⟩
          refine ⟨_, rfl, ?_⟩
          have h20F := h17F.tr (h20E.wk (W' := [125, 138, 139, 140, 141, 142, 143, 166, 167, 168, 1041]) (by first | rfl | simp))
          show pw X d h20 306 120 [some (.ref 141), some (pw_i mk), some (pw_i z), some (pw_i (1728 * mk))] [] _
          refine pw_ld E (pc' := 121) (st' := [.ref 141]) rfl (fun _ => rfl) ?_
          refine pw_ld E (pc' := 122) (st' := [pw_i (1728 * mk), .ref 141]) rfl (fun _ => rfl) ?_
          refine pw_sip E (pc' := 125) rfl rfl (by decide) ?_
          refine pw_add E (pc' := 126) rfl rfl ?_
          refine pw_ld E (pc' := 127) (st' := [.ref 141, pw_i ((1728 * mk) + 864), .ref 141]) rfl (fun _ => rfl) ?_
          refine pw_getR (b := 157) h20I E (c := 125) (k := 21) (pc' := 130) rfl rfl rfl rfl rfl rfl rfl ?_
          refine pw_ld E (pc' := 131) (st' := [pw_i z, .ref 157, pw_i ((1728 * mk) + 864), .ref 141]) rfl (fun _ => rfl) ?_
          obtain ⟨f22l, f22h, -⟩ := pw_obj (c := 125) h20I rfl
          refine pw_call (m' := 307) (As := [.ref 141, pw_i ((1728 * mk) + 864), .ref 157, pw_i z]) (rest := []) (ls'' := [some (.ref 141), some (pw_i ((1728 * mk) + 864)), some (.ref 157), some (pw_i z), none]) (by omega) E rfl (fun _ => pw_iV rfl rfl rfl rfl (pw_cellI f22h rfl)) (rfl : pm_ent 307 = some (4, 5, 12, 4, pmc_307)) rfl rfl (cm_307_141 (by omega) h20I ((1728 * mk) + 864) (by omega) (by omega) (z) (by omega) (by omega)) ?_
          rintro h23 v24 ⟨h23I, h23E, rfl⟩
          refine ⟨_, rfl, ?_⟩
          have h23F := h20F.tr (h23E.wk (W' := [125, 138, 139, 140, 141, 142, 143, 166, 167, 168, 1041]) (by first | rfl | simp))
          show pw X d h23 306 134 [some (.ref 141), some (pw_i mk), some (pw_i z), some (pw_i (1728 * mk))] [] _
          refine pw_ld E (pc' := 135) (st' := [.ref 141]) rfl (fun _ => rfl) ?_
          refine pw_ld E (pc' := 136) (st' := [pw_i (1728 * mk), .ref 141]) rfl (fun _ => rfl) ?_
          refine pw_sip E (pc' := 139) rfl rfl (by decide) ?_
          refine pw_add E (pc' := 140) rfl rfl ?_
          refine pw_ld E (pc' := 141) (st' := [.ref 141, pw_i ((1728 * mk) + 1152), .ref 141]) rfl (fun _ => rfl) ?_
          refine pw_getR (b := 158) h23I E (c := 125) (k := 22) (pc' := 144) rfl rfl rfl rfl rfl rfl rfl ?_
          refine pw_ld E (pc' := 145) (st' := [pw_i z, .ref 158, pw_i ((1728 * mk) + 1152), .ref 141]) rfl (fun _ => rfl) ?_
          obtain ⟨f25l, f25h, -⟩ := pw_obj (c := 125) h23I rfl
          refine pw_call (m' := 307) (As := [.ref 141, pw_i ((1728 * mk) + 1152), .ref 158, pw_i z]) (rest := []) (ls'' := [some (.ref 141), some (pw_i ((1728 * mk) + 1152)), some (.ref 158), some (pw_i z), none]) (by omega) E rfl (fun _ => pw_iV rfl rfl rfl rfl (pw_cellI f25h rfl)) (rfl : pm_ent 307 = some (4, 5, 12, 4, pmc_307)) rfl rfl (cm_307_142 (by omega) h23I ((1728 * mk) + 1152) (by omega) (by omega) (z) (by omega) (by omega)) ?_
          rintro h26 v27 ⟨h26I, h26E, rfl⟩
          refine ⟨_, rfl, ?_⟩
          have h26F := h23F.tr (h26E.wk (W' := [125, 138, 139, 140, 141, 142, 143, 166, 167, 168, 1041]) (by first | rfl | simp))
          show pw X d h26 306 148 [some (.ref 141), some (pw_i mk), some (pw_i z), some (pw_i (1728 * mk))] [] _
          refine pw_ld E (pc' := 149) (st' := [.ref 141]) rfl (fun _ => rfl) ?_
          refine pw_ld E (pc' := 150) (st' := [pw_i (1728 * mk), .ref 141]) rfl (fun _ => rfl) ?_
          refine pw_sip E (pc' := 153) rfl rfl (by decide) ?_
          refine pw_add E (pc' := 154) rfl rfl ?_
          refine pw_ld E (pc' := 155) (st' := [.ref 141, pw_i ((1728 * mk) + 1440), .ref 141]) rfl (fun _ => rfl) ?_
          refine pw_getR (b := 159) h26I E (c := 125) (k := 23) (pc' := 158) rfl rfl rfl rfl rfl rfl rfl ?_
          refine pw_ld E (pc' := 159) (st' := [pw_i z, .ref 159, pw_i ((1728 * mk) + 1440), .ref 141]) rfl (fun _ => rfl) ?_
          obtain ⟨f28l, f28h, -⟩ := pw_obj (c := 125) h26I rfl
          refine pw_call (m' := 307) (As := [.ref 141, pw_i ((1728 * mk) + 1440), .ref 159, pw_i z]) (rest := []) (ls'' := [some (.ref 141), some (pw_i ((1728 * mk) + 1440)), some (.ref 159), some (pw_i z), none]) (by omega) E rfl (fun _ => pw_iV rfl rfl rfl rfl (pw_cellI f28h rfl)) (rfl : pm_ent 307 = some (4, 5, 12, 4, pmc_307)) rfl rfl (cm_307_143 (by omega) h26I ((1728 * mk) + 1440) (by omega) (by omega) (z) (by omega) (by omega)) ?_
          rintro h29 v30 ⟨h29I, h29E, rfl⟩
          refine ⟨_, rfl, ?_⟩
          have h29F := h26F.tr (h29E.wk (W' := [125, 138, 139, 140, 141, 142, 143, 166, 167, 168, 1041]) (by first | rfl | simp))
          show pw X d h29 306 162 [some (.ref 141), some (pw_i mk), some (pw_i z), some (pw_i (1728 * mk))] [] _
          refine pw_ld E (pc' := 163) (st' := [pw_i 1]) rfl (fun _ => rfl) ?_
          refine pw_zret E rfl (by omega) ?_
          have hl31 : ∀ j : Nat, pw_g h29 166 j = pw_g h10 166 j := fun j => (((((((pw_Eg (c := 166) h26I h29E rfl rfl j : pw_g h29 166 j = pw_g h26 166 j)).trans (pw_Eg (c := 166) h23I h26E rfl rfl j : pw_g h26 166 j = pw_g h23 166 j)).trans (pw_Eg (c := 166) h20I h23E rfl rfl j : pw_g h23 166 j = pw_g h20 166 j)).trans (pw_Eg (c := 166) h17I h20E rfl rfl j : pw_g h20 166 j = pw_g h17 166 j)).trans (pw_Eg (c := 166) h14I h17E rfl rfl j : pw_g h17 166 j = pw_g h14 166 j)).trans (pw_Eg (c := 166) h12I h14E rfl rfl j : pw_g h14 166 j = pw_g h12 166 j)).trans (by rw [← h12w]; exact pw_g_ne (by omega) : pw_g h12 166 j = pw_g h10 166 j)
          have hl32 : ∀ j : Nat, pw_g h1 166 j = pw_g h 166 j := fun j => (by rw [← h1w]; exact pw_g_ne (by omega) : pw_g h1 166 j = pw_g h 166 j)
          have hl33 : ∀ j : Nat, pw_g h29 167 j = pw_g h12 167 j := fun j => ((((((pw_Eg (c := 167) h26I h29E rfl rfl j : pw_g h29 167 j = pw_g h26 167 j)).trans (pw_Eg (c := 167) h23I h26E rfl rfl j : pw_g h26 167 j = pw_g h23 167 j)).trans (pw_Eg (c := 167) h20I h23E rfl rfl j : pw_g h23 167 j = pw_g h20 167 j)).trans (pw_Eg (c := 167) h17I h20E rfl rfl j : pw_g h20 167 j = pw_g h17 167 j)).trans (pw_Eg (c := 167) h14I h17E rfl rfl j : pw_g h17 167 j = pw_g h14 167 j)).trans (pw_Eg (c := 167) h12I h14E rfl rfl j : pw_g h14 167 j = pw_g h12 167 j)
          have hl34 : ∀ j : Nat, pw_g h10 167 j = pw_g h 167 j := fun j => ((by rw [← h10w]; exact pw_g_ne (by omega) : pw_g h10 167 j = pw_g h1 167 j)).trans (by rw [← h1w]; exact pw_g_ne (by omega) : pw_g h1 167 j = pw_g h 167 j)
          have h41 : pw_g h29 125 41 = pw_g h 125 41 := (((((((((pw_Ef h29E (by unfold pw_pf; omega) rfl : pw_g h29 125 41 = pw_g h26 125 41)).trans (pw_Ef h26E (by unfold pw_pf; omega) rfl : pw_g h26 125 41 = pw_g h23 125 41)).trans (pw_Ef h23E (by unfold pw_pf; omega) rfl : pw_g h23 125 41 = pw_g h20 125 41)).trans (pw_Ef h20E (by unfold pw_pf; omega) rfl : pw_g h20 125 41 = pw_g h17 125 41)).trans (pw_Ef h17E (by unfold pw_pf; omega) rfl : pw_g h17 125 41 = pw_g h14 125 41)).trans (pw_Ef h14E (by unfold pw_pf; omega) rfl : pw_g h14 125 41 = pw_g h12 125 41)).trans (by rw [← h12w]; exact pw_g_ne (by omega) : pw_g h12 125 41 = pw_g h10 125 41)).trans (by rw [← h10w]; exact pw_g_ne (by omega) : pw_g h10 125 41 = pw_g h1 125 41)).trans (by rw [← h1w]; exact pw_g_ne (by omega) : pw_g h1 125 41 = pw_g h 125 41)
          have h41b : pw_g h10 125 41 = pw_g h 125 41 := ((by rw [← h10w]; exact pw_g_ne (by omega) : pw_g h10 125 41 = pw_g h1 125 41)).trans (by rw [← h1w]; exact pw_g_ne (by omega) : pw_g h1 125 41 = pw_g h 125 41)
          have p6 : pw_g h10 166 mk.toNat = 1 := by rw [← h10w]; exact pw_g_eqA h1I rfl (by omega) (by omega) (by omega)
          have p7 : pw_g h12 167 mk.toNat = pw_g h10 125 41 := by rw [← h12w]; exact pw_g_eqA h10I rfl (by omega) (by omega) (by omega)
          have n6 : ∀ j : Nat, j ≠ mk.toNat → pw_g h10 166 j = pw_g h1 166 j := fun j hj => by rw [← h10w]; exact pw_g_ne (fun q => hj q.2.symm)
          have n7 : ∀ j : Nat, j ≠ mk.toNat → pw_g h12 167 j = pw_g h10 167 j := fun j hj => by rw [← h12w]; exact pw_g_ne (fun q => hj q.2.symm)
          have hM : pw_MT (pw_g h 125 41) (pw_g h29 125 41) (pw_g h 167) (pw_g h 166) (pw_g h29 167) (pw_g h29 166) mk z 1 := Or.inr (Or.inl ⟨by omega, by omega, by omega, rfl, h41, (hl33 _).trans (p7.trans h41b), (hl31 _).trans p6, fun i _ e => ⟨(hl33 i).trans ((n7 i e).trans (hl34 i)), (hl31 i).trans ((n6 i e).trans (hl32 i))⟩⟩)
          exact ⟨h29I, h29F, ⟨_, rfl, by omega, by omega, hM⟩⟩
        · intro hc35
          have hc35 : ¬ (z = (0 : Int)) := hc35
          exfalso; omega
      · intro hc36
        have hc36 : ¬ (z = (0 : Int)) := hc36
        refine pw_ld E (pc' := 19) (st' := [.ref 141]) rfl (fun _ => rfl) ?_
        refine pw_getR (b := 182) h1I E (c := 125) (k := 55) (pc' := 22) rfl rfl rfl rfl rfl rfl rfl ?_
        refine pw_ld E (pc' := 23) (st' := [pw_i mk, .ref 182]) rfl (fun _ => rfl) ?_
        refine pw_ald h1I E (c := 166) (pc' := 24) rfl rfl rfl (by decide) rfl (by decide) (by omega) (by omega) rfl (fun hf37a hf37b hf37c hf37d => ?_)
        refine pw_if E (pc' := 40) rfl (by decide) (by omega) (by omega) ?_ ?_
        · intro hc38
          have hc38 : pw_g h1 166 (mk.toNat) = (0 : Int) := hc38
          refine pw_ld E (pc' := 41) (st' := [pw_i 0]) rfl (fun _ => rfl) ?_
          refine pw_zret E rfl (by omega) ?_
          have hl39 : ∀ j : Nat, pw_g h1 167 j = pw_g h 167 j := fun j => (by rw [← h1w]; exact pw_g_ne (by omega) : pw_g h1 167 j = pw_g h 167 j)
          have hl40 : ∀ j : Nat, pw_g h1 166 j = pw_g h 166 j := fun j => (by rw [← h1w]; exact pw_g_ne (by omega) : pw_g h1 166 j = pw_g h 166 j)
          have h41 : pw_g h1 125 41 = pw_g h 125 41 := (by rw [← h1w]; exact pw_g_ne (by omega) : pw_g h1 125 41 = pw_g h 125 41)
          have q7 := hl39 mk.toNat
          have q6 := hl40 mk.toNat
          have hM : pw_MT (pw_g h 125 41) (pw_g h1 125 41) (pw_g h 167) (pw_g h 166) (pw_g h1 167) (pw_g h1 166) mk z 0 := by
            rcases (by omega : ¬ (0 ≤ mk ∧ mk ≤ 3) ∨ (0 ≤ mk ∧ mk ≤ 3)) with hq | hq
            · exact Or.inl ⟨hq, rfl, h41, fun i _ => ⟨hl39 i, hl40 i⟩⟩
            · exact Or.inr (Or.inr (Or.inl ⟨by omega, by omega, by omega, by omega, rfl, h41, fun i _ => ⟨hl39 i, hl40 i⟩⟩))
          exact ⟨h1I, h1F, ⟨_, rfl, by omega, by omega, hM⟩⟩
        · intro hc41
          have hc41 : ¬ (pw_g h1 166 (mk.toNat) = (0 : Int)) := hc41
          refine pw_ld E (pc' := 28) (st' := [.ref 141]) rfl (fun _ => rfl) ?_
          refine pw_getI h1I E (c := 125) (k := 41) (pc' := 31) rfl rfl rfl rfl rfl rfl (fun hf42a hf42b hf42c hf42d => ?_)
          refine pw_ld E (pc' := 32) (st' := [.ref 141, pw_i (pw_g h1 125 41)]) rfl (fun _ => rfl) ?_
          refine pw_getR (b := 183) h1I E (c := 125) (k := 56) (pc' := 35) rfl rfl rfl rfl rfl rfl rfl ?_
          refine pw_ld E (pc' := 36) (st' := [pw_i mk, .ref 183, pw_i (pw_g h1 125 41)]) rfl (fun _ => rfl) ?_
          refine pw_ald h1I E (c := 167) (pc' := 37) rfl rfl rfl (by decide) rfl (by decide) (by omega) (by omega) rfl (fun hf43a hf43b hf43c hf43d => ?_)
          refine pw_if2 E (pc' := 42) rfl (by decide) (by omega) (by omega) (by omega) (by omega) ?_ ?_
          · intro hc44
            have hc44 : pw_g h1 167 (mk.toNat) ≤ pw_g h1 125 41 := hc44
            refine pw_ld E (pc' := 43) (st' := [pw_i z]) rfl (fun _ => rfl) ?_
            refine pw_if E (pc' := 59) rfl (by decide) (by omega) (by omega) ?_ ?_
            · intro hc45
              have hc45 : z = (0 : Int) := hc45
              exfalso; omega
            · intro hc46
              have hc46 : ¬ (z = (0 : Int)) := hc46
              refine pw_ld E (pc' := 47) (st' := [.ref 141]) rfl (fun _ => rfl) ?_
              refine pw_ld E (pc' := 48) (st' := [.ref 141, .ref 141]) rfl (fun _ => rfl) ?_
              refine pw_getR (b := 183) h1I E (c := 125) (k := 56) (pc' := 51) rfl rfl rfl rfl rfl rfl rfl ?_
              refine pw_ld E (pc' := 52) (st' := [pw_i mk, .ref 183, .ref 141]) rfl (fun _ => rfl) ?_
              refine pw_ald h1I E (c := 167) (pc' := 53) rfl rfl rfl (by decide) rfl (by decide) (by omega) (by omega) rfl (fun hf47a hf47b hf47c hf47d => ?_)
              refine pw_putP h1I E (k := 41) (pc' := 56) rfl rfl rfl rfl (by omega) (by omega) (by omega) (by omega) rfl rfl ?_
              intro h48I h48E
              generalize h48w : pw_w h1 125 41 (pw_i (pw_g h1 167 (mk.toNat))) = h48 at h48I h48E ⊢
              have h48F := h1F.tr (h48E.wk (W' := [125, 138, 139, 140, 141, 142, 143, 166, 167, 168, 1041]) (by first | rfl | simp))
              refine pw_goto E (pc' := 76) rfl (by decide) ?_
              refine pw_sip E (pc' := 79) rfl rfl (by decide) ?_
              refine pw_ld E (pc' := 80) (st' := [pw_i mk, pw_i 1728]) rfl (fun _ => rfl) ?_
              refine pw_mul E (pc' := 81) rfl rfl ?_
              refine pw_istn E (pc' := 82) (ls' := [some (.ref 141), some (pw_i mk), some (pw_i z), some (pw_i (1728 * mk))]) rfl rfl rfl rfl ?_
              refine pw_ld E (pc' := 83) (st' := [.ref 141]) rfl (fun _ => rfl) ?_
              refine pw_ld E (pc' := 84) (st' := [pw_i (1728 * mk), .ref 141]) rfl (fun _ => rfl) ?_
              refine pw_ld E (pc' := 85) (st' := [.ref 141, pw_i (1728 * mk), .ref 141]) rfl (fun _ => rfl) ?_
              refine pw_getR (b := 154) h48I E (c := 125) (k := 18) (pc' := 88) rfl rfl rfl rfl rfl rfl rfl ?_
              refine pw_ld E (pc' := 89) (st' := [pw_i z, .ref 154, pw_i (1728 * mk), .ref 141]) rfl (fun _ => rfl) ?_
              obtain ⟨f49l, f49h, -⟩ := pw_obj (c := 125) h48I rfl
              refine pw_call (m' := 307) (As := [.ref 141, pw_i (1728 * mk), .ref 154, pw_i z]) (rest := []) (ls'' := [some (.ref 141), some (pw_i (1728 * mk)), some (.ref 154), some (pw_i z), none]) (by omega) E rfl (fun _ => pw_iV rfl rfl rfl rfl (pw_cellI f49h rfl)) (rfl : pm_ent 307 = some (4, 5, 12, 4, pmc_307)) rfl rfl (cm_307_138 (by omega) h48I (1728 * mk) (by omega) (by omega) (z) (by omega) (by omega)) ?_
              rintro h50 v51 ⟨h50I, h50E, rfl⟩
              refine ⟨_, rfl, ?_⟩
              have h50F := h48F.tr (h50E.wk (W' := [125, 138, 139, 140, 141, 142, 143, 166, 167, 168, 1041]) (by first | rfl | simp))
              show pw X d h50 306 92 [some (.ref 141), some (pw_i mk), some (pw_i z), some (pw_i (1728 * mk))] [] _
              refine pw_ld E (pc' := 93) (st' := [.ref 141]) rfl (fun _ => rfl) ?_
              refine pw_ld E (pc' := 94) (st' := [pw_i (1728 * mk), .ref 141]) rfl (fun _ => rfl) ?_
              refine pw_sip E (pc' := 97) rfl rfl (by decide) ?_
              refine pw_add E (pc' := 98) rfl rfl ?_
              refine pw_ld E (pc' := 99) (st' := [.ref 141, pw_i ((1728 * mk) + 288), .ref 141]) rfl (fun _ => rfl) ?_
              refine pw_getR (b := 155) h50I E (c := 125) (k := 19) (pc' := 102) rfl rfl rfl rfl rfl rfl rfl ?_
              refine pw_ld E (pc' := 103) (st' := [pw_i z, .ref 155, pw_i ((1728 * mk) + 288), .ref 141]) rfl (fun _ => rfl) ?_
              obtain ⟨f52l, f52h, -⟩ := pw_obj (c := 125) h50I rfl
              refine pw_call (m' := 307) (As := [.ref 141, pw_i ((1728 * mk) + 288), .ref 155, pw_i z]) (rest := []) (ls'' := [some (.ref 141), some (pw_i ((1728 * mk) + 288)), some (.ref 155), some (pw_i z), none]) (by omega) E rfl (fun _ => pw_iV rfl rfl rfl rfl (pw_cellI f52h rfl)) (rfl : pm_ent 307 = some (4, 5, 12, 4, pmc_307)) rfl rfl (cm_307_139 (by omega) h50I ((1728 * mk) + 288) (by omega) (by omega) (z) (by omega) (by omega)) ?_
              rintro h53 v54 ⟨h53I, h53E, rfl⟩
              refine ⟨_, rfl, ?_⟩
              have h53F := h50F.tr (h53E.wk (W' := [125, 138, 139, 140, 141, 142, 143, 166, 167, 168, 1041]) (by first | rfl | simp))
              show pw X d h53 306 106 [some (.ref 141), some (pw_i mk), some (pw_i z), some (pw_i (1728 * mk))] [] _
              refine pw_ld E (pc' := 107) (st' := [.ref 141]) rfl (fun _ => rfl) ?_
              refine pw_ld E (pc' := 108) (st' := [pw_i (1728 * mk), .ref 141]) rfl (fun _ => rfl) ?_
              refine pw_sip E (pc' := 111) rfl rfl (by decide) ?_
              refine pw_add E (pc' := 112) rfl rfl ?_
              refine pw_ld E (pc' := 113) (st' := [.ref 141, pw_i ((1728 * mk) + 576), .ref 141]) rfl (fun _ => rfl) ?_
              refine pw_getR (b := 156) h53I E (c := 125) (k := 20) (pc' := 116) rfl rfl rfl rfl rfl rfl rfl ?_
              refine pw_ld E (pc' := 117) (st' := [pw_i z, .ref 156, pw_i ((1728 * mk) + 576), .ref 141]) rfl (fun _ => rfl) ?_
              obtain ⟨f55l, f55h, -⟩ := pw_obj (c := 125) h53I rfl
              refine pw_call (m' := 307) (As := [.ref 141, pw_i ((1728 * mk) + 576), .ref 156, pw_i z]) (rest := []) (ls'' := [some (.ref 141), some (pw_i ((1728 * mk) + 576)), some (.ref 156), some (pw_i z), none]) (by omega) E rfl (fun _ => pw_iV rfl rfl rfl rfl (pw_cellI f55h rfl)) (rfl : pm_ent 307 = some (4, 5, 12, 4, pmc_307)) rfl rfl (cm_307_140 (by omega) h53I ((1728 * mk) + 576) (by omega) (by omega) (z) (by omega) (by omega)) ?_
              rintro h56 v57 ⟨h56I, h56E, rfl⟩
              refine ⟨_, rfl, ?_⟩
              have h56F := h53F.tr (h56E.wk (W' := [125, 138, 139, 140, 141, 142, 143, 166, 167, 168, 1041]) (by first | rfl | simp))
              show pw X d h56 306 120 [some (.ref 141), some (pw_i mk), some (pw_i z), some (pw_i (1728 * mk))] [] _
              refine pw_ld E (pc' := 121) (st' := [.ref 141]) rfl (fun _ => rfl) ?_
              refine pw_ld E (pc' := 122) (st' := [pw_i (1728 * mk), .ref 141]) rfl (fun _ => rfl) ?_
              refine pw_sip E (pc' := 125) rfl rfl (by decide) ?_
              refine pw_add E (pc' := 126) rfl rfl ?_
              refine pw_ld E (pc' := 127) (st' := [.ref 141, pw_i ((1728 * mk) + 864), .ref 141]) rfl (fun _ => rfl) ?_
              refine pw_getR (b := 157) h56I E (c := 125) (k := 21) (pc' := 130) rfl rfl rfl rfl rfl rfl rfl ?_
              refine pw_ld E (pc' := 131) (st' := [pw_i z, .ref 157, pw_i ((1728 * mk) + 864), .ref 141]) rfl (fun _ => rfl) ?_
              obtain ⟨f58l, f58h, -⟩ := pw_obj (c := 125) h56I rfl
              refine pw_call (m' := 307) (As := [.ref 141, pw_i ((1728 * mk) + 864), .ref 157, pw_i z]) (rest := []) (ls'' := [some (.ref 141), some (pw_i ((1728 * mk) + 864)), some (.ref 157), some (pw_i z), none]) (by omega) E rfl (fun _ => pw_iV rfl rfl rfl rfl (pw_cellI f58h rfl)) (rfl : pm_ent 307 = some (4, 5, 12, 4, pmc_307)) rfl rfl (cm_307_141 (by omega) h56I ((1728 * mk) + 864) (by omega) (by omega) (z) (by omega) (by omega)) ?_
              rintro h59 v60 ⟨h59I, h59E, rfl⟩
              refine ⟨_, rfl, ?_⟩
              have h59F := h56F.tr (h59E.wk (W' := [125, 138, 139, 140, 141, 142, 143, 166, 167, 168, 1041]) (by first | rfl | simp))
              show pw X d h59 306 134 [some (.ref 141), some (pw_i mk), some (pw_i z), some (pw_i (1728 * mk))] [] _
              refine pw_ld E (pc' := 135) (st' := [.ref 141]) rfl (fun _ => rfl) ?_
              refine pw_ld E (pc' := 136) (st' := [pw_i (1728 * mk), .ref 141]) rfl (fun _ => rfl) ?_
              refine pw_sip E (pc' := 139) rfl rfl (by decide) ?_
              refine pw_add E (pc' := 140) rfl rfl ?_
              refine pw_ld E (pc' := 141) (st' := [.ref 141, pw_i ((1728 * mk) + 1152), .ref 141]) rfl (fun _ => rfl) ?_
              refine pw_getR (b := 158) h59I E (c := 125) (k := 22) (pc' := 144) rfl rfl rfl rfl rfl rfl rfl ?_
              refine pw_ld E (pc' := 145) (st' := [pw_i z, .ref 158, pw_i ((1728 * mk) + 1152), .ref 141]) rfl (fun _ => rfl) ?_
              obtain ⟨f61l, f61h, -⟩ := pw_obj (c := 125) h59I rfl
              refine pw_call (m' := 307) (As := [.ref 141, pw_i ((1728 * mk) + 1152), .ref 158, pw_i z]) (rest := []) (ls'' := [some (.ref 141), some (pw_i ((1728 * mk) + 1152)), some (.ref 158), some (pw_i z), none]) (by omega) E rfl (fun _ => pw_iV rfl rfl rfl rfl (pw_cellI f61h rfl)) (rfl : pm_ent 307 = some (4, 5, 12, 4, pmc_307)) rfl rfl (cm_307_142 (by omega) h59I ((1728 * mk) + 1152) (by omega) (by omega) (z) (by omega) (by omega)) ?_
              rintro h62 v63 ⟨h62I, h62E, rfl⟩
              refine ⟨_, rfl, ?_⟩
              have h62F := h59F.tr (h62E.wk (W' := [125, 138, 139, 140, 141, 142, 143, 166, 167, 168, 1041]) (by first | rfl | simp))
              show pw X d h62 306 148 [some (.ref 141), some (pw_i mk), some (pw_i z), some (pw_i (1728 * mk))] [] _
              refine pw_ld E (pc' := 149) (st' := [.ref 141]) rfl (fun _ => rfl) ?_
              refine pw_ld E (pc' := 150) (st' := [pw_i (1728 * mk), .ref 141]) rfl (fun _ => rfl) ?_
              refine pw_sip E (pc' := 153) rfl rfl (by decide) ?_
              refine pw_add E (pc' := 154) rfl rfl ?_
              refine pw_ld E (pc' := 155) (st' := [.ref 141, pw_i ((1728 * mk) + 1440), .ref 141]) rfl (fun _ => rfl) ?_
              refine pw_getR (b := 159) h62I E (c := 125) (k := 23) (pc' := 158) rfl rfl rfl rfl rfl rfl rfl ?_
              refine pw_ld E (pc' := 159) (st' := [pw_i z, .ref 159, pw_i ((1728 * mk) + 1440), .ref 141]) rfl (fun _ => rfl) ?_
              obtain ⟨f64l, f64h, -⟩ := pw_obj (c := 125) h62I rfl
              refine pw_call (m' := 307) (As := [.ref 141, pw_i ((1728 * mk) + 1440), .ref 159, pw_i z]) (rest := []) (ls'' := [some (.ref 141), some (pw_i ((1728 * mk) + 1440)), some (.ref 159), some (pw_i z), none]) (by omega) E rfl (fun _ => pw_iV rfl rfl rfl rfl (pw_cellI f64h rfl)) (rfl : pm_ent 307 = some (4, 5, 12, 4, pmc_307)) rfl rfl (cm_307_143 (by omega) h62I ((1728 * mk) + 1440) (by omega) (by omega) (z) (by omega) (by omega)) ?_
              rintro h65 v66 ⟨h65I, h65E, rfl⟩
              refine ⟨_, rfl, ?_⟩
              have h65F := h62F.tr (h65E.wk (W' := [125, 138, 139, 140, 141, 142, 143, 166, 167, 168, 1041]) (by first | rfl | simp))
              show pw X d h65 306 162 [some (.ref 141), some (pw_i mk), some (pw_i z), some (pw_i (1728 * mk))] [] _
              refine pw_ld E (pc' := 163) (st' := [pw_i 1]) rfl (fun _ => rfl) ?_
              refine pw_zret E rfl (by omega) ?_
              have hl67 : ∀ j : Nat, pw_g h65 167 j = pw_g h 167 j := fun j => ((((((((pw_Eg (c := 167) h62I h65E rfl rfl j : pw_g h65 167 j = pw_g h62 167 j)).trans (pw_Eg (c := 167) h59I h62E rfl rfl j : pw_g h62 167 j = pw_g h59 167 j)).trans (pw_Eg (c := 167) h56I h59E rfl rfl j : pw_g h59 167 j = pw_g h56 167 j)).trans (pw_Eg (c := 167) h53I h56E rfl rfl j : pw_g h56 167 j = pw_g h53 167 j)).trans (pw_Eg (c := 167) h50I h53E rfl rfl j : pw_g h53 167 j = pw_g h50 167 j)).trans (pw_Eg (c := 167) h48I h50E rfl rfl j : pw_g h50 167 j = pw_g h48 167 j)).trans (by rw [← h48w]; exact pw_g_ne (by omega) : pw_g h48 167 j = pw_g h1 167 j)).trans (by rw [← h1w]; exact pw_g_ne (by omega) : pw_g h1 167 j = pw_g h 167 j)
              have hl68 : ∀ j : Nat, pw_g h65 166 j = pw_g h 166 j := fun j => ((((((((pw_Eg (c := 166) h62I h65E rfl rfl j : pw_g h65 166 j = pw_g h62 166 j)).trans (pw_Eg (c := 166) h59I h62E rfl rfl j : pw_g h62 166 j = pw_g h59 166 j)).trans (pw_Eg (c := 166) h56I h59E rfl rfl j : pw_g h59 166 j = pw_g h56 166 j)).trans (pw_Eg (c := 166) h53I h56E rfl rfl j : pw_g h56 166 j = pw_g h53 166 j)).trans (pw_Eg (c := 166) h50I h53E rfl rfl j : pw_g h53 166 j = pw_g h50 166 j)).trans (pw_Eg (c := 166) h48I h50E rfl rfl j : pw_g h50 166 j = pw_g h48 166 j)).trans (by rw [← h48w]; exact pw_g_ne (by omega) : pw_g h48 166 j = pw_g h1 166 j)).trans (by rw [← h1w]; exact pw_g_ne (by omega) : pw_g h1 166 j = pw_g h 166 j)
              have hl69 : ∀ j : Nat, pw_g h1 167 j = pw_g h 167 j := fun j => (by rw [← h1w]; exact pw_g_ne (by omega) : pw_g h1 167 j = pw_g h 167 j)
              have hl70 : ∀ j : Nat, pw_g h1 166 j = pw_g h 166 j := fun j => (by rw [← h1w]; exact pw_g_ne (by omega) : pw_g h1 166 j = pw_g h 166 j)
              have c41 : pw_g h65 125 41 = pw_g h48 125 41 := ((((((pw_Ef h65E (by unfold pw_pf; omega) rfl : pw_g h65 125 41 = pw_g h62 125 41)).trans (pw_Ef h62E (by unfold pw_pf; omega) rfl : pw_g h62 125 41 = pw_g h59 125 41)).trans (pw_Ef h59E (by unfold pw_pf; omega) rfl : pw_g h59 125 41 = pw_g h56 125 41)).trans (pw_Ef h56E (by unfold pw_pf; omega) rfl : pw_g h56 125 41 = pw_g h53 125 41)).trans (pw_Ef h53E (by unfold pw_pf; omega) rfl : pw_g h53 125 41 = pw_g h50 125 41)).trans (pw_Ef h50E (by unfold pw_pf; omega) rfl : pw_g h50 125 41 = pw_g h48 125 41)
              have d41 : pw_g h48 125 41 = pw_g h1 167 mk.toNat := by rw [← h48w]; exact pw_g_eq (c := 125) (k := 41) h1I rfl rfl (by omega) (by omega)
              have f41 : pw_g h1 125 41 = pw_g h 125 41 := (by rw [← h1w]; exact pw_g_ne (by omega) : pw_g h1 125 41 = pw_g h 125 41)
              have q7 := hl69 mk.toNat
              have q6 := hl70 mk.toNat
              have hM : pw_MT (pw_g h 125 41) (pw_g h65 125 41) (pw_g h 167) (pw_g h 166) (pw_g h65 167) (pw_g h65 166) mk z 1 := Or.inr (Or.inr (Or.inr ⟨by omega, by omega, by omega, by omega, by omega, rfl, by omega, fun i _ => ⟨hl67 i, hl68 i⟩⟩))
              exact ⟨h65I, h65F, ⟨_, rfl, by omega, by omega, hM⟩⟩
          · intro hc71
            have hc71 : ¬ (pw_g h1 167 (mk.toNat) ≤ pw_g h1 125 41) := hc71
            refine pw_ld E (pc' := 41) (st' := [pw_i 0]) rfl (fun _ => rfl) ?_
            refine pw_zret E rfl (by omega) ?_
            have hl72 : ∀ j : Nat, pw_g h1 167 j = pw_g h 167 j := fun j => (by rw [← h1w]; exact pw_g_ne (by omega) : pw_g h1 167 j = pw_g h 167 j)
            have hl73 : ∀ j : Nat, pw_g h1 166 j = pw_g h 166 j := fun j => (by rw [← h1w]; exact pw_g_ne (by omega) : pw_g h1 166 j = pw_g h 166 j)
            have h41 : pw_g h1 125 41 = pw_g h 125 41 := (by rw [← h1w]; exact pw_g_ne (by omega) : pw_g h1 125 41 = pw_g h 125 41)
            have q7 := hl72 mk.toNat
            have q6 := hl73 mk.toNat
            have hM : pw_MT (pw_g h 125 41) (pw_g h1 125 41) (pw_g h 167) (pw_g h 166) (pw_g h1 167) (pw_g h1 166) mk z 0 := by
              rcases (by omega : ¬ (0 ≤ mk ∧ mk ≤ 3) ∨ (0 ≤ mk ∧ mk ≤ 3)) with hq | hq
              · exact Or.inl ⟨hq, rfl, h41, fun i _ => ⟨hl72 i, hl73 i⟩⟩
              · exact Or.inr (Or.inr (Or.inl ⟨by omega, by omega, by omega, by omega, rfl, h41, fun i _ => ⟨hl72 i, hl73 i⟩⟩))
            exact ⟨h1I, h1F, ⟨_, rfl, by omega, by omega, hM⟩⟩
  · have hb74 : x4 = 0 := by omega
    refine pw_if E (pc' := 40) rfl (by decide) (by omega) (by omega) ?_ ?_
    · intro hc75
      have hc75 : x4 = (0 : Int) := hc75
      refine pw_ld E (pc' := 41) (st' := [pw_i 0]) rfl (fun _ => rfl) ?_
      refine pw_zret E rfl (by omega) ?_
      have hl76 : ∀ j : Nat, pw_g h1 167 j = pw_g h 167 j := fun j => (by rw [← h1w]; exact pw_g_ne (by omega) : pw_g h1 167 j = pw_g h 167 j)
      have hl77 : ∀ j : Nat, pw_g h1 166 j = pw_g h 166 j := fun j => (by rw [← h1w]; exact pw_g_ne (by omega) : pw_g h1 166 j = pw_g h 166 j)
      have h41 : pw_g h1 125 41 = pw_g h 125 41 := (by rw [← h1w]; exact pw_g_ne (by omega) : pw_g h1 125 41 = pw_g h 125 41)
      have q7 := hl76 mk.toNat
      have q6 := hl77 mk.toNat
      have hM : pw_MT (pw_g h 125 41) (pw_g h1 125 41) (pw_g h 167) (pw_g h 166) (pw_g h1 167) (pw_g h1 166) mk z 0 := by
        rcases (by omega : ¬ (0 ≤ mk ∧ mk ≤ 3) ∨ (0 ≤ mk ∧ mk ≤ 3)) with hq | hq
        · exact Or.inl ⟨hq, rfl, h41, fun i _ => ⟨hl76 i, hl77 i⟩⟩
        · exact Or.inr (Or.inr (Or.inl ⟨by omega, by omega, by omega, by omega, rfl, h41, fun i _ => ⟨hl76 i, hl77 i⟩⟩))
      exact ⟨h1I, h1F, ⟨_, rfl, by omega, by omega, hM⟩⟩
    · intro hc78
      have hc78 : ¬ (x4 = (0 : Int)) := hc78
      exfalso; omega
