section
/-! other and mark, exactly (printed by wip/tool/mmark.py) -/
/-- what mark does to the number of other rivers and to what the marks hold -/
def pw_MT (c c' : Int) (o l o' l' : Nat → Int) (mk b a : Int) : Prop :=
  (¬ (0 ≤ mk ∧ mk ≤ 3) ∧ a = 0 ∧ c' = c ∧ ∀ i : Nat, i < 4 → o' i = o i ∧ l' i = l i) ∨
  (0 ≤ mk ∧ mk ≤ 3 ∧ b = 0 ∧ a = 1 ∧ c' = c ∧ o' mk.toNat = c ∧ l' mk.toNat = 1 ∧ ∀ i : Nat, i < 4 → i ≠ mk.toNat → o' i = o i ∧ l' i = l i) ∨
  (0 ≤ mk ∧ mk ≤ 3 ∧ b = 1 ∧ (l mk.toNat = 0 ∨ c < o mk.toNat) ∧ a = 0 ∧ c' = c ∧ ∀ i : Nat, i < 4 → o' i = o i ∧ l' i = l i) ∨
  (0 ≤ mk ∧ mk ≤ 3 ∧ b = 1 ∧ l mk.toNat ≠ 0 ∧ o mk.toNat ≤ c ∧ a = 1 ∧ c' = o mk.toNat ∧ ∀ i : Nat, i < 4 → o' i = o i ∧ l' i = l i)
def pw_om (h : pm_H) (i : Nat) : Int := pw_g h (105 + 5 * i) 2
def pw_lm (h : pm_H) (i : Nat) : Int := pw_g h (105 + 5 * i) 3
theorem pw_i4 {P : Nat → Prop} (h0 : P 0) (h1 : P 1) (h2 : P 2) (h3 : P 3) : ∀ i : Nat, i < 4 → P i := by
  intro i hi
  rcases (by omega : i = 0 ∨ i = 1 ∨ i = 2 ∨ i = 3) with rfl | rfl | rfl | rfl
  · exact h0
  · exact h1
  · exact h2
  · exact h3
/-- the same before, the same after -/
theorem pw_MT.un {c c' d d' : Int} {o l o' l' p q p' q' : Nat → Int} {mk b a a' : Int} (h1 : pw_MT c c' o l o' l' mk b a) (h2 : pw_MT d d' p q p' q' mk b a') (hc : c = d) (ho : ∀ i : Nat, i < 4 → o i = p i ∧ l i = q i) : a = a' ∧ c' = d' ∧ ∀ i : Nat, i < 4 → o' i = p' i ∧ l' i = q' i := by
  have hm : 0 ≤ mk → mk ≤ 3 → o mk.toNat = p mk.toNat ∧ l mk.toNat = q mk.toNat := fun z1 z2 => ho _ (by omega)
  have same : (∀ i : Nat, i < 4 → o' i = o i ∧ l' i = l i) → (∀ i : Nat, i < 4 → p' i = p i ∧ q' i = q i) → ∀ i : Nat, i < 4 → o' i = p' i ∧ l' i = q' i := fun u v i hi => ⟨((u i hi).1.trans (ho i hi).1).trans (v i hi).1.symm, ((u i hi).2.trans (ho i hi).2).trans (v i hi).2.symm⟩
  rcases h1 with ⟨x1, x2, x3, x4⟩ | ⟨x1, x2, x3, x4, x5, x6, x7, x8⟩ | ⟨x1, x2, x3, x4, x5, x6, x7⟩ | ⟨x1, x2, x3, x4, x5, x6, x7, x8⟩ <;> rcases h2 with ⟨y1, y2, y3, y4⟩ | ⟨y1, y2, y3, y4, y5, y6, y7, y8⟩ | ⟨y1, y2, y3, y4, y5, y6, y7⟩ | ⟨y1, y2, y3, y4, y5, y6, y7, y8⟩
  · exact ⟨by omega, by omega, same x4 y4⟩
  · exfalso; omega
  · exfalso; omega
  · exfalso; omega
  · exfalso; omega
  · refine ⟨by omega, by omega, fun i hi => ?_⟩
    rcases (by omega : i = mk.toNat ∨ i ≠ mk.toNat) with e | e
    · rw [e]; constructor <;> omega
    · exact ⟨((x8 i hi e).1.trans (ho i hi).1).trans (y8 i hi e).1.symm, ((x8 i hi e).2.trans (ho i hi).2).trans (y8 i hi e).2.symm⟩
  · exfalso; omega
  · exfalso; omega
  · exfalso; omega
  · exfalso; omega
  · exact ⟨by omega, by omega, same x7 y7⟩
  · have := hm x1 x2; exfalso; omega
  · exfalso; omega
  · exfalso; omega
  · have := hm x1 x2; exfalso; omega
  · have := hm x1 x2; exact ⟨by omega, by omega, same x8 y8⟩

set_option maxHeartbeats 4000000 in
theorem cm_40_m {X : List (Nat × List Value)} {d : Nat} {h : pm_H} (hd : 1 ≤ d) (I : pw_I h)  : pw X d h 40 0 [some (.ref 116)] [] (fun h' v => h = h' ∧ ∃ a : Int, v = .inl (some (pw_i a)) ∧ 0 ≤ a ∧ a ≤ 20 ∧ (a = pw_g h 100 3)) := by
  have E : pm_ent 40 = some (1, 1, 4, 0, pmc_40) := rfl
  refine pw_ld E (pc' := 1) (st' := [.ref 116]) rfl (fun _ => rfl) ?_
  refine pw_getI2 I E (c := 100) (k := 3) (pc' := 4) rfl rfl rfl rfl rfl rfl (fun hf1a hf1b => ?_)
  refine pw_iret E rfl ?_
  exact ⟨rfl, ⟨_, rfl, by omega, by omega, by omega⟩⟩
set_option maxHeartbeats 4000000 in
theorem cm_41_m {X : List (Nat × List Value)} {d : Nat} {h : pm_H} (hd : 1 ≤ d) (I : pw_I h) (n : Int) (hn1 : 0 ≤ n) (hn2 : n ≤ 20) : pw X d h 41 0 [some (.ref 116), some (pw_i n)] [] (fun h' v => pw_I h' ∧ pw_E [100] h h' ∧ (pw_g h' 100 3 = min (pw_g h 100 3) n) ∧ (v = .inl none)) := by
  have E : pm_ent 41 = some (2, 2, 4, 4, pmc_41) := rfl
  have E0 : pw_E [100] h h := pw_E.rf _ _
  refine pw_ld E (pc' := 1) (st' := [.ref 116]) rfl (fun _ => rfl) ?_
  refine pw_ld E (pc' := 2) (st' := [.ref 116, .ref 116]) rfl (fun _ => rfl) ?_
  refine pw_getI2 I E (c := 100) (k := 3) (pc' := 5) rfl rfl rfl rfl rfl rfl (fun hf1a hf1b => ?_)
  refine pw_ld E (pc' := 6) (st' := [pw_i n, pw_i (pw_g h 100 3), .ref 116]) rfl (fun _ => rfl) ?_
  refine pw_min E rfl rfl (by omega) (by omega) (by omega) (by omega) rfl ?_
  refine pw_putI I E (c := 100) (k := 3) (pc' := 12) rfl rfl rfl rfl (by omega) (by omega) (by omega) (by omega) rfl rfl ?_
  intro h2I h2E
  generalize h2w : pw_w h 100 3 (pw_i (min (pw_g h 100 3) n)) = h2 at h2I h2E ⊢
  have h2F := E0.tr (h2E.wk (W' := [100]) (by first | rfl | simp))
  have he3 : pw_g h2 100 3 = min (pw_g h 100 3) n := by rw [← h2w]; exact pw_g_eq (c := 100) (k := 3) I rfl rfl (by omega) (by omega)
  refine pw_vret E rfl ?_
  exact ⟨h2I, h2F, ⟨by omega, rfl⟩⟩
set_option maxHeartbeats 4000000 in
theorem cm_32_105m {X : List (Nat × List Value)} {d : Nat} {h : pm_H} (hd : 1 ≤ d) (I : pw_I h)  : pw X d h 32 0 [some (.ref 121)] [] (fun h' v => h = h' ∧ ∃ a : Int, v = .inl (some (pw_i a)) ∧ 0 ≤ a ∧ a ≤ 1 ∧ (a = pw_g h 105 3)) := by
  have E : pm_ent 32 = some (1, 1, 3, 1, pmc_32) := rfl
  refine pw_ld E (pc' := 1) (st' := [.ref 121]) rfl (fun _ => rfl) ?_
  refine pw_getI2 I E (c := 105) (k := 3) (pc' := 4) rfl rfl rfl rfl rfl rfl (fun hf1a hf1b => ?_)
  refine pw_zret E rfl (by omega) ?_
  exact ⟨rfl, ⟨_, rfl, by omega, by omega, by omega⟩⟩
set_option maxHeartbeats 4000000 in
theorem cm_33_105m {X : List (Nat × List Value)} {d : Nat} {h : pm_H} (hd : 1 ≤ d) (I : pw_I h)  : pw X d h 33 0 [some (.ref 121)] [] (fun h' v => h = h' ∧ ∃ a : Int, v = .inl (some (pw_i a)) ∧ 0 ≤ a ∧ a ≤ 20 ∧ (a = pw_g h 105 2)) := by
  have E : pm_ent 33 = some (1, 1, 3, 0, pmc_33) := rfl
  refine pw_ld E (pc' := 1) (st' := [.ref 121]) rfl (fun _ => rfl) ?_
  refine pw_getI2 I E (c := 105) (k := 2) (pc' := 4) rfl rfl rfl rfl rfl rfl (fun hf1a hf1b => ?_)
  refine pw_iret E rfl ?_
  exact ⟨rfl, ⟨_, rfl, by omega, by omega, by omega⟩⟩
set_option maxHeartbeats 4000000 in
theorem cm_32_110m {X : List (Nat × List Value)} {d : Nat} {h : pm_H} (hd : 1 ≤ d) (I : pw_I h)  : pw X d h 32 0 [some (.ref 126)] [] (fun h' v => h = h' ∧ ∃ a : Int, v = .inl (some (pw_i a)) ∧ 0 ≤ a ∧ a ≤ 1 ∧ (a = pw_g h 110 3)) := by
  have E : pm_ent 32 = some (1, 1, 3, 1, pmc_32) := rfl
  refine pw_ld E (pc' := 1) (st' := [.ref 126]) rfl (fun _ => rfl) ?_
  refine pw_getI2 I E (c := 110) (k := 3) (pc' := 4) rfl rfl rfl rfl rfl rfl (fun hf1a hf1b => ?_)
  refine pw_zret E rfl (by omega) ?_
  exact ⟨rfl, ⟨_, rfl, by omega, by omega, by omega⟩⟩
set_option maxHeartbeats 4000000 in
theorem cm_33_110m {X : List (Nat × List Value)} {d : Nat} {h : pm_H} (hd : 1 ≤ d) (I : pw_I h)  : pw X d h 33 0 [some (.ref 126)] [] (fun h' v => h = h' ∧ ∃ a : Int, v = .inl (some (pw_i a)) ∧ 0 ≤ a ∧ a ≤ 20 ∧ (a = pw_g h 110 2)) := by
  have E : pm_ent 33 = some (1, 1, 3, 0, pmc_33) := rfl
  refine pw_ld E (pc' := 1) (st' := [.ref 126]) rfl (fun _ => rfl) ?_
  refine pw_getI2 I E (c := 110) (k := 2) (pc' := 4) rfl rfl rfl rfl rfl rfl (fun hf1a hf1b => ?_)
  refine pw_iret E rfl ?_
  exact ⟨rfl, ⟨_, rfl, by omega, by omega, by omega⟩⟩
set_option maxHeartbeats 4000000 in
theorem cm_32_115m {X : List (Nat × List Value)} {d : Nat} {h : pm_H} (hd : 1 ≤ d) (I : pw_I h)  : pw X d h 32 0 [some (.ref 131)] [] (fun h' v => h = h' ∧ ∃ a : Int, v = .inl (some (pw_i a)) ∧ 0 ≤ a ∧ a ≤ 1 ∧ (a = pw_g h 115 3)) := by
  have E : pm_ent 32 = some (1, 1, 3, 1, pmc_32) := rfl
  refine pw_ld E (pc' := 1) (st' := [.ref 131]) rfl (fun _ => rfl) ?_
  refine pw_getI2 I E (c := 115) (k := 3) (pc' := 4) rfl rfl rfl rfl rfl rfl (fun hf1a hf1b => ?_)
  refine pw_zret E rfl (by omega) ?_
  exact ⟨rfl, ⟨_, rfl, by omega, by omega, by omega⟩⟩
set_option maxHeartbeats 4000000 in
theorem cm_33_115m {X : List (Nat × List Value)} {d : Nat} {h : pm_H} (hd : 1 ≤ d) (I : pw_I h)  : pw X d h 33 0 [some (.ref 131)] [] (fun h' v => h = h' ∧ ∃ a : Int, v = .inl (some (pw_i a)) ∧ 0 ≤ a ∧ a ≤ 20 ∧ (a = pw_g h 115 2)) := by
  have E : pm_ent 33 = some (1, 1, 3, 0, pmc_33) := rfl
  refine pw_ld E (pc' := 1) (st' := [.ref 131]) rfl (fun _ => rfl) ?_
  refine pw_getI2 I E (c := 115) (k := 2) (pc' := 4) rfl rfl rfl rfl rfl rfl (fun hf1a hf1b => ?_)
  refine pw_iret E rfl ?_
  exact ⟨rfl, ⟨_, rfl, by omega, by omega, by omega⟩⟩
set_option maxHeartbeats 4000000 in
theorem cm_32_120m {X : List (Nat × List Value)} {d : Nat} {h : pm_H} (hd : 1 ≤ d) (I : pw_I h)  : pw X d h 32 0 [some (.ref 136)] [] (fun h' v => h = h' ∧ ∃ a : Int, v = .inl (some (pw_i a)) ∧ 0 ≤ a ∧ a ≤ 1 ∧ (a = pw_g h 120 3)) := by
  have E : pm_ent 32 = some (1, 1, 3, 1, pmc_32) := rfl
  refine pw_ld E (pc' := 1) (st' := [.ref 136]) rfl (fun _ => rfl) ?_
  refine pw_getI2 I E (c := 120) (k := 3) (pc' := 4) rfl rfl rfl rfl rfl rfl (fun hf1a hf1b => ?_)
  refine pw_zret E rfl (by omega) ?_
  exact ⟨rfl, ⟨_, rfl, by omega, by omega, by omega⟩⟩
set_option maxHeartbeats 4000000 in
theorem cm_33_120m {X : List (Nat × List Value)} {d : Nat} {h : pm_H} (hd : 1 ≤ d) (I : pw_I h)  : pw X d h 33 0 [some (.ref 136)] [] (fun h' v => h = h' ∧ ∃ a : Int, v = .inl (some (pw_i a)) ∧ 0 ≤ a ∧ a ≤ 20 ∧ (a = pw_g h 120 2)) := by
  have E : pm_ent 33 = some (1, 1, 3, 0, pmc_33) := rfl
  refine pw_ld E (pc' := 1) (st' := [.ref 136]) rfl (fun _ => rfl) ?_
  refine pw_getI2 I E (c := 120) (k := 2) (pc' := 4) rfl rfl rfl rfl rfl rfl (fun hf1a hf1b => ?_)
  refine pw_iret E rfl ?_
  exact ⟨rfl, ⟨_, rfl, by omega, by omega, by omega⟩⟩
end
section
/-! who is told, exactly (printed by wip/tool/mtold.py) -/
set_option maxHeartbeats 4000000 in
theorem cm_124_t {X : List (Nat × List Value)} {d : Nat} {h : pm_H} (hd : 3 ≤ d) (I : pw_I h) (k : Int) (hk1 : (-2147483648) ≤ k) (hk2 : k ≤ 2147483647) : pw X d h 124 0 [some (.ref 16), some (pw_i k)] [] (fun h' v => h = h' ∧ ∃ a : Int, v = .inl (some (pw_i a)) ∧ 0 ≤ a ∧ a ≤ 1 ∧ ((a = 1 ∧ 0 ≤ k ∧ k ≤ 23 ∧ pw_g h 2 k.toNat = 1) ∨ (a = 0 ∧ ¬ (0 ≤ k ∧ k ≤ 23 ∧ pw_g h 2 k.toNat = 1)))) := by
  have E : pm_ent 124 = some (2, 2, 11, 1, pmc_124) := rfl
  refine pw_ld E (pc' := 1) (st' := [pw_i k]) rfl (fun _ => rfl) ?_
  refine pw_call (m' := 120) (As := [pw_i k]) (rest := []) (ls'' := [some (pw_i k)]) (Nat.le_trans (by decide) hd) E rfl (fun _ => pw_iS rfl rfl rfl) (rfl : pm_ent 120 = some (1, 1, 11, 1, pmc_120)) rfl rfl (cm_120 (pw_dp hd (by decide)) I (k) (by omega) (by omega)) ?_
  rintro u2 v1 ⟨rfl, x3, rfl, hx3a, hx3b, hx3r⟩
  refine ⟨_, rfl, ?_⟩
  show pw X d h 124 4 [some (.ref 16), some (pw_i k)] [pw_i x3] _
  change (x3 = 1 ∧ 0 ≤ k ∧ k ≤ 23) ∨ (x3 = 0 ∧ ¬ (0 ≤ k ∧ k ≤ 23)) at hx3r
  rcases (by omega : x3 = 1 ∨ x3 = 0) with hb4 | hb4
  · skip
    refine pw_if E (pc' := 22) rfl (by decide) (by omega) (by omega) ?_ ?_
    · intro hc5
      change x3 = (0 : Int) at hc5
      exfalso; omega
    · intro hc6
      change ¬ (x3 = (0 : Int)) at hc6
      refine pw_ld E (pc' := 8) (st' := [.ref 16]) rfl (fun _ => rfl) ?_
      refine pw_getR (b := 17) I E (c := 0) (k := 0) (pc' := 11) rfl rfl rfl rfl rfl rfl rfl ?_
      refine pw_ld E (pc' := 12) (st' := [pw_i k, .ref 17]) rfl (fun _ => rfl) ?_
      obtain ⟨f7l, f7h, -⟩ := pw_obj (c := 1) I rfl
      refine pw_call (m' := 59) (As := [.ref 17, pw_i k]) (rest := []) (ls'' := [some (.ref 17), some (pw_i k)]) (Nat.le_trans (by decide) hd) E rfl (fun _ => pw_iV rfl rfl rfl rfl (pw_cellI f7h rfl)) (rfl : pm_ent 59 = some (2, 2, 6, 1, pmc_59)) rfl rfl (cm_59 (pw_dp hd (by decide)) I (k) (by omega) (by omega)) ?_
      rintro u9 v8 ⟨rfl, x10, rfl, hx10a, hx10b, hx10r⟩
      refine ⟨_, rfl, ?_⟩
      show pw X d h 124 15 [some (.ref 16), some (pw_i k)] [pw_i x10] _
      change x10 = pw_g h 2 k.toNat at hx10r
      rcases (by omega : x10 = 1 ∨ x10 = 0) with hb11 | hb11
      · skip
        refine pw_if E (pc' := 22) rfl (by decide) (by omega) (by omega) ?_ ?_
        · intro hc12
          change x10 = (0 : Int) at hc12
          exfalso; omega
        · intro hc13
          change ¬ (x10 = (0 : Int)) at hc13
          refine pw_ld E (pc' := 19) (st' := [pw_i 1]) rfl (fun _ => rfl) ?_
          refine pw_goto E (pc' := 23) rfl (by decide) ?_
          refine pw_zret E rfl (by omega) ?_
          exact ⟨rfl, ⟨_, rfl, by omega, by omega, by omega⟩⟩
      · skip
        refine pw_if E (pc' := 22) rfl (by decide) (by omega) (by omega) ?_ ?_
        · intro hc15
          change x10 = (0 : Int) at hc15
          refine pw_ld E (pc' := 23) (st' := [pw_i 0]) rfl (fun _ => rfl) ?_
          refine pw_zret E rfl (by omega) ?_
          exact ⟨rfl, ⟨_, rfl, by omega, by omega, by omega⟩⟩
        · intro hc16
          change ¬ (x10 = (0 : Int)) at hc16
          exfalso; omega
  · skip
    refine pw_if E (pc' := 22) rfl (by decide) (by omega) (by omega) ?_ ?_
    · intro hc18
      change x3 = (0 : Int) at hc18
      refine pw_ld E (pc' := 23) (st' := [pw_i 0]) rfl (fun _ => rfl) ?_
      refine pw_zret E rfl (by omega) ?_
      exact ⟨rfl, ⟨_, rfl, by omega, by omega, by omega⟩⟩
    · intro hc19
      change ¬ (x3 = (0 : Int)) at hc19
      exfalso; omega
set_option maxHeartbeats 4000000 in
theorem cm_204_t {X : List (Nat × List Value)} {d : Nat} {h : pm_H} (hd : 2 ≤ d) (I : pw_I h) (k : Int) (hk1 : (-2147483648) ≤ k) (hk2 : k ≤ 2147483647) : pw X d h 204 0 [some (.ref 141), some (pw_i k)] [] (fun h' v => h = h' ∧ ∃ a : Int, v = .inl (some (pw_i a)) ∧ 0 ≤ a ∧ a ≤ 1 ∧ ((a = 1 ∧ 0 ≤ k ∧ k ≤ 23 ∧ pw_g h 131 k.toNat = 1) ∨ (a = 0 ∧ ¬ (0 ≤ k ∧ k ≤ 23 ∧ pw_g h 131 k.toNat = 1)))) := by
  have E : pm_ent 204 = some (2, 2, 12, 1, pmc_204) := rfl
  refine pw_ld E (pc' := 1) (st' := [pw_i k]) rfl (fun _ => rfl) ?_
  refine pw_ld E (pc' := 2) (st' := [pw_i 0, pw_i k]) rfl (fun _ => rfl) ?_
  refine pw_bip E (pc' := 4) rfl rfl (by decide) ?_
  refine pw_call (m' := 202) (As := [pw_i k, pw_i 0, pw_i 23]) (rest := []) (ls'' := [some (pw_i k), some (pw_i 0), some (pw_i 23)]) (Nat.le_trans (by decide) hd) E rfl (fun _ => pw_iS rfl rfl rfl) (rfl : pm_ent 202 = some (3, 3, 12, 1, pmc_202)) rfl rfl (cm_202 (pw_dp hd (by decide)) I (k) (by omega) (by omega) (0) (by omega) (by omega) (23) (by omega) (by omega)) ?_
  rintro u2 v1 ⟨rfl, x3, rfl, hx3a, hx3b, hx3r⟩
  refine ⟨_, rfl, ?_⟩
  show pw X d h 204 7 [some (.ref 141), some (pw_i k)] [pw_i x3] _
  change (x3 = 1 ∧ 0 ≤ k ∧ k ≤ 23) ∨ (x3 = 0 ∧ ¬ (0 ≤ k ∧ k ≤ 23)) at hx3r
  rcases (by omega : x3 = 1 ∨ x3 = 0) with hb4 | hb4
  · skip
    refine pw_if E (pc' := 23) rfl (by decide) (by omega) (by omega) ?_ ?_
    · intro hc5
      change x3 = (0 : Int) at hc5
      exfalso; omega
    · intro hc6
      change ¬ (x3 = (0 : Int)) at hc6
      refine pw_ld E (pc' := 11) (st' := [.ref 141]) rfl (fun _ => rfl) ?_
      refine pw_getR (b := 147) I E (c := 125) (k := 10) (pc' := 14) rfl rfl rfl rfl rfl rfl rfl ?_
      refine pw_ld E (pc' := 15) (st' := [pw_i k, .ref 147]) rfl (fun _ => rfl) ?_
      refine pw_ald2 I E (c := 131) (pc' := 16) rfl rfl rfl (by decide) rfl (by decide) (by omega) (by omega) rfl (fun hf7a hf7b => ?_)
      refine pw_if E (pc' := 23) rfl (by decide) (by omega) (by omega) ?_ ?_
      · intro hc8
        change pw_g h 131 (k.toNat) = (0 : Int) at hc8
        refine pw_ld E (pc' := 24) (st' := [pw_i 0]) rfl (fun _ => rfl) ?_
        refine pw_zret E rfl (by omega) ?_
        exact ⟨rfl, ⟨_, rfl, by omega, by omega, by omega⟩⟩
      · intro hc9
        change ¬ (pw_g h 131 (k.toNat) = (0 : Int)) at hc9
        refine pw_ld E (pc' := 20) (st' := [pw_i 1]) rfl (fun _ => rfl) ?_
        refine pw_goto E (pc' := 24) rfl (by decide) ?_
        refine pw_zret E rfl (by omega) ?_
        exact ⟨rfl, ⟨_, rfl, by omega, by omega, by omega⟩⟩
  · skip
    refine pw_if E (pc' := 23) rfl (by decide) (by omega) (by omega) ?_ ?_
    · intro hc11
      change x3 = (0 : Int) at hc11
      refine pw_ld E (pc' := 24) (st' := [pw_i 0]) rfl (fun _ => rfl) ?_
      refine pw_zret E rfl (by omega) ?_
      exact ⟨rfl, ⟨_, rfl, by omega, by omega, by omega⟩⟩
    · intro hc12
      change ¬ (x3 = (0 : Int)) at hc12
      exfalso; omega
end
section
/-! calls, sheets, tenths, hands, exactly (printed by wip/tool/mled.py) -/
/-- one place of an array has changed -/
def pw_up (h h' : pm_H) (c : Nat) (i v : Int) : Prop := pw_g h' c i.toNat = v ∧ ∀ j : Nat, j ≠ i.toNat → pw_g h' c j = pw_g h c j
/-- none has -/
def pw_sm (h h' : pm_H) (c : Nat) : Prop := ∀ j : Nat, pw_g h' c j = pw_g h c j
/-- what a call lays into the class's cell, and into the model's three -/
def pw_cv (wh hf v : Int) : Prop := (wh = -1 ∧ hf = -1 ∧ v = -1) ∨ (0 ≤ wh ∧ hf = -1 ∧ v = -2) ∨ (0 ≤ wh ∧ 0 ≤ hf ∧ v = wh * 100 + hf)
def pw_mv (wh hf s w g : Int) : Prop := (wh = -1 ∧ hf = -1 ∧ s = 2 ∧ w = 0 ∧ g = 0) ∨ (0 ≤ wh ∧ hf = -1 ∧ s = 0 ∧ w = 0 ∧ g = 0) ∨ (0 ≤ wh ∧ 0 ≤ hf ∧ s = 1 ∧ w = wh ∧ g = hf)

set_option maxHeartbeats 4000000 in
theorem cm_18_10h {X : List (Nat × List Value)} {d : Nat} {h : pm_H} (hd : 1 ≤ d) (I : pw_I h) (k : Int) (hk1 : 0 ≤ k) (hk2 : k ≤ 23) (mo : Int) (hmo1 : 0 ≤ mo) (hmo2 : mo ≤ 11) (wh : Int) (hwh1 : 0 ≤ wh) (hwh2 : wh ≤ 99) (hf : Int) (hhf1 : 0 ≤ hf) (hhf2 : hf ≤ 99) : pw X d h 18 0 [some (.ref 26), some (pw_i k), some (pw_i mo), some (pw_i wh), some (pw_i hf)] [] (fun h' v => pw_I h' ∧ pw_E [11] h h' ∧ (pw_up h h' 11 (k * 12 + mo) (wh * 100 + hf)) ∧ (v = .inl none)) := by
  have E : pm_ent 18 = some (5, 5, 2, 4, pmc_18) := rfl
  have E0 : pw_E [11] h h := pw_E.rf _ _
  refine pw_ld E (pc' := 1) (st' := [.ref 26]) rfl (fun _ => rfl) ?_
  refine pw_getR (b := 27) I E (c := 10) (k := 0) (pc' := 4) rfl rfl rfl rfl rfl rfl rfl ?_
  refine pw_ld E (pc' := 5) (st' := [pw_i k, .ref 27]) rfl (fun _ => rfl) ?_
  refine pw_bip E (pc' := 7) rfl rfl (by decide) ?_
  refine pw_mul E (pc' := 8) rfl rfl ?_
  refine pw_ld E (pc' := 9) (st' := [pw_i mo, pw_i (k * 12), .ref 27]) rfl (fun _ => rfl) ?_
  refine pw_add E (pc' := 10) rfl rfl ?_
  refine pw_ld E (pc' := 11) (st' := [pw_i wh, pw_i ((k * 12) + mo), .ref 27]) rfl (fun _ => rfl) ?_
  refine pw_bip E (pc' := 13) rfl rfl (by decide) ?_
  refine pw_mul E (pc' := 14) rfl rfl ?_
  refine pw_ld E (pc' := 16) (st' := [pw_i hf, pw_i (wh * 100), pw_i ((k * 12) + mo), .ref 27]) rfl (fun _ => rfl) ?_
  refine pw_add E (pc' := 17) rfl rfl ?_
  refine pw_ast0 I E (c := 11) (pc' := 18) rfl rfl rfl (by decide) rfl (by decide) (by omega) (by omega) rfl (by omega) (by omega) (by omega) (by omega) rfl ?_
  intro h1I h1E
  generalize h1w : pw_w h 11 (((k * 12) + mo).toNat) (pw_i ((wh * 100) + hf)) = h1 at h1I h1E ⊢
  have h1F := E0.tr (h1E.wk (W' := [11]) (by first | rfl | simp))
  refine pw_vret E rfl ?_
  have hl3 : ∀ j : Nat, pw_g h1 11 j = pw_g h1 11 j := fun j => rfl
  have hl4 : ∀ j : Nat, pw_g h 11 j = pw_g h 11 j := fun j => rfl
  have hu2a : pw_g h1 11 (((k * 12) + mo).toNat) = (wh * 100) + hf := by rw [← h1w]; exact pw_g_eqA I rfl (by omega) (by omega) (by omega)
  have hu2b : ∀ j : Nat, j ≠ ((k * 12) + mo).toNat → pw_g h1 11 j = pw_g h 11 j := fun j hj => by rw [← h1w]; exact pw_g_ne (fun q => hj q.2.symm)
  exact ⟨h1I, h1F, ⟨(hl3 _).trans hu2a, fun j hj => (hl3 j).trans ((hu2b j hj).trans (hl4 j))⟩, rfl⟩
set_option maxHeartbeats 4000000 in
theorem cm_18_12h {X : List (Nat × List Value)} {d : Nat} {h : pm_H} (hd : 1 ≤ d) (I : pw_I h) (k : Int) (hk1 : 0 ≤ k) (hk2 : k ≤ 23) (mo : Int) (hmo1 : 0 ≤ mo) (hmo2 : mo ≤ 11) (wh : Int) (hwh1 : 0 ≤ wh) (hwh2 : wh ≤ 99) (hf : Int) (hhf1 : 0 ≤ hf) (hhf2 : hf ≤ 99) : pw X d h 18 0 [some (.ref 28), some (pw_i k), some (pw_i mo), some (pw_i wh), some (pw_i hf)] [] (fun h' v => pw_I h' ∧ pw_E [13] h h' ∧ (pw_up h h' 13 (k * 12 + mo) (wh * 100 + hf)) ∧ (v = .inl none)) := by
  have E : pm_ent 18 = some (5, 5, 2, 4, pmc_18) := rfl
  have E0 : pw_E [13] h h := pw_E.rf _ _
  refine pw_ld E (pc' := 1) (st' := [.ref 28]) rfl (fun _ => rfl) ?_
  refine pw_getR (b := 29) I E (c := 12) (k := 0) (pc' := 4) rfl rfl rfl rfl rfl rfl rfl ?_
  refine pw_ld E (pc' := 5) (st' := [pw_i k, .ref 29]) rfl (fun _ => rfl) ?_
  refine pw_bip E (pc' := 7) rfl rfl (by decide) ?_
  refine pw_mul E (pc' := 8) rfl rfl ?_
  refine pw_ld E (pc' := 9) (st' := [pw_i mo, pw_i (k * 12), .ref 29]) rfl (fun _ => rfl) ?_
  refine pw_add E (pc' := 10) rfl rfl ?_
  refine pw_ld E (pc' := 11) (st' := [pw_i wh, pw_i ((k * 12) + mo), .ref 29]) rfl (fun _ => rfl) ?_
  refine pw_bip E (pc' := 13) rfl rfl (by decide) ?_
  refine pw_mul E (pc' := 14) rfl rfl ?_
  refine pw_ld E (pc' := 16) (st' := [pw_i hf, pw_i (wh * 100), pw_i ((k * 12) + mo), .ref 29]) rfl (fun _ => rfl) ?_
  refine pw_add E (pc' := 17) rfl rfl ?_
  refine pw_ast0 I E (c := 13) (pc' := 18) rfl rfl rfl (by decide) rfl (by decide) (by omega) (by omega) rfl (by omega) (by omega) (by omega) (by omega) rfl ?_
  intro h1I h1E
  generalize h1w : pw_w h 13 (((k * 12) + mo).toNat) (pw_i ((wh * 100) + hf)) = h1 at h1I h1E ⊢
  have h1F := E0.tr (h1E.wk (W' := [13]) (by first | rfl | simp))
  refine pw_vret E rfl ?_
  have hl3 : ∀ j : Nat, pw_g h1 13 j = pw_g h1 13 j := fun j => rfl
  have hl4 : ∀ j : Nat, pw_g h 13 j = pw_g h 13 j := fun j => rfl
  have hu2a : pw_g h1 13 (((k * 12) + mo).toNat) = (wh * 100) + hf := by rw [← h1w]; exact pw_g_eqA I rfl (by omega) (by omega) (by omega)
  have hu2b : ∀ j : Nat, j ≠ ((k * 12) + mo).toNat → pw_g h1 13 j = pw_g h 13 j := fun j hj => by rw [← h1w]; exact pw_g_ne (fun q => hj q.2.symm)
  exact ⟨h1I, h1F, ⟨(hl3 _).trans hu2a, fun j hj => (hl3 j).trans ((hu2b j hj).trans (hl4 j))⟩, rfl⟩
set_option maxHeartbeats 4000000 in
theorem cm_16_10h {X : List (Nat × List Value)} {d : Nat} {h : pm_H} (hd : 1 ≤ d) (I : pw_I h) (k : Int) (hk1 : 0 ≤ k) (hk2 : k ≤ 23) (mo : Int) (hmo1 : 0 ≤ mo) (hmo2 : mo ≤ 11) : pw X d h 16 0 [some (.ref 26), some (pw_i k), some (pw_i mo)] [] (fun h' v => pw_I h' ∧ pw_E [11] h h' ∧ (pw_up h h' 11 (k * 12 + mo) (-1)) ∧ (v = .inl none)) := by
  have E : pm_ent 16 = some (3, 3, 2, 4, pmc_16) := rfl
  have E0 : pw_E [11] h h := pw_E.rf _ _
  refine pw_ld E (pc' := 1) (st' := [.ref 26]) rfl (fun _ => rfl) ?_
  refine pw_getR (b := 27) I E (c := 10) (k := 0) (pc' := 4) rfl rfl rfl rfl rfl rfl rfl ?_
  refine pw_ld E (pc' := 5) (st' := [pw_i k, .ref 27]) rfl (fun _ => rfl) ?_
  refine pw_bip E (pc' := 7) rfl rfl (by decide) ?_
  refine pw_mul E (pc' := 8) rfl rfl ?_
  refine pw_ld E (pc' := 9) (st' := [pw_i mo, pw_i (k * 12), .ref 27]) rfl (fun _ => rfl) ?_
  refine pw_add E (pc' := 10) rfl rfl ?_
  refine pw_ld E (pc' := 11) (st' := [pw_i ((-1)), pw_i ((k * 12) + mo), .ref 27]) rfl (fun _ => rfl) ?_
  refine pw_ast0 I E (c := 11) (pc' := 12) rfl rfl rfl (by decide) rfl (by decide) (by omega) (by omega) rfl (by omega) (by omega) (by omega) (by omega) rfl ?_
  intro h1I h1E
  generalize h1w : pw_w h 11 (((k * 12) + mo).toNat) (pw_i ((-1))) = h1 at h1I h1E ⊢
  have h1F := E0.tr (h1E.wk (W' := [11]) (by first | rfl | simp))
  refine pw_vret E rfl ?_
  have hl3 : ∀ j : Nat, pw_g h1 11 j = pw_g h1 11 j := fun j => rfl
  have hl4 : ∀ j : Nat, pw_g h 11 j = pw_g h 11 j := fun j => rfl
  have hu2a : pw_g h1 11 (((k * 12) + mo).toNat) = (-1) := by rw [← h1w]; exact pw_g_eqA I rfl (by omega) (by omega) (by omega)
  have hu2b : ∀ j : Nat, j ≠ ((k * 12) + mo).toNat → pw_g h1 11 j = pw_g h 11 j := fun j hj => by rw [← h1w]; exact pw_g_ne (fun q => hj q.2.symm)
  exact ⟨h1I, h1F, ⟨(hl3 _).trans hu2a, fun j hj => (hl3 j).trans ((hu2b j hj).trans (hl4 j))⟩, rfl⟩
set_option maxHeartbeats 4000000 in
theorem cm_17_10h {X : List (Nat × List Value)} {d : Nat} {h : pm_H} (hd : 1 ≤ d) (I : pw_I h) (k : Int) (hk1 : 0 ≤ k) (hk2 : k ≤ 23) (mo : Int) (hmo1 : 0 ≤ mo) (hmo2 : mo ≤ 11) : pw X d h 17 0 [some (.ref 26), some (pw_i k), some (pw_i mo)] [] (fun h' v => pw_I h' ∧ pw_E [11] h h' ∧ (pw_up h h' 11 (k * 12 + mo) (-2)) ∧ (v = .inl none)) := by
  have E : pm_ent 17 = some (3, 3, 2, 4, pmc_17) := rfl
  have E0 : pw_E [11] h h := pw_E.rf _ _
  refine pw_ld E (pc' := 1) (st' := [.ref 26]) rfl (fun _ => rfl) ?_
  refine pw_getR (b := 27) I E (c := 10) (k := 0) (pc' := 4) rfl rfl rfl rfl rfl rfl rfl ?_
  refine pw_ld E (pc' := 5) (st' := [pw_i k, .ref 27]) rfl (fun _ => rfl) ?_
  refine pw_bip E (pc' := 7) rfl rfl (by decide) ?_
  refine pw_mul E (pc' := 8) rfl rfl ?_
  refine pw_ld E (pc' := 9) (st' := [pw_i mo, pw_i (k * 12), .ref 27]) rfl (fun _ => rfl) ?_
  refine pw_add E (pc' := 10) rfl rfl ?_
  refine pw_bip E (pc' := 12) rfl rfl (by decide) ?_
  refine pw_ast0 I E (c := 11) (pc' := 13) rfl rfl rfl (by decide) rfl (by decide) (by omega) (by omega) rfl (by omega) (by omega) (by omega) (by omega) rfl ?_
  intro h1I h1E
  generalize h1w : pw_w h 11 (((k * 12) + mo).toNat) (pw_i ((-2))) = h1 at h1I h1E ⊢
  have h1F := E0.tr (h1E.wk (W' := [11]) (by first | rfl | simp))
  refine pw_vret E rfl ?_
  have hl3 : ∀ j : Nat, pw_g h1 11 j = pw_g h1 11 j := fun j => rfl
  have hl4 : ∀ j : Nat, pw_g h 11 j = pw_g h 11 j := fun j => rfl
  have hu2a : pw_g h1 11 (((k * 12) + mo).toNat) = (-2) := by rw [← h1w]; exact pw_g_eqA I rfl (by omega) (by omega) (by omega)
  have hu2b : ∀ j : Nat, j ≠ ((k * 12) + mo).toNat → pw_g h1 11 j = pw_g h 11 j := fun j hj => by rw [← h1w]; exact pw_g_ne (fun q => hj q.2.symm)
  exact ⟨h1I, h1F, ⟨(hl3 _).trans hu2a, fun j hj => (hl3 j).trans ((hu2b j hj).trans (hl4 j))⟩, rfl⟩
set_option maxHeartbeats 4000000 in
theorem cm_123_h {X : List (Nat × List Value)} {d : Nat} {h : pm_H} (hd : 4 ≤ d) (I : pw_I h) (k : Int) (hk1 : (-2147483648) ≤ k) (hk2 : k ≤ 2147483647) (mo : Int) (hmo1 : (-2147483648) ≤ mo) (hmo2 : mo ≤ 2147483647) (wh : Int) (hwh1 : (-2147483648) ≤ wh) (hwh2 : wh ≤ 2147483647) (hf : Int) (hhf1 : (-2147483648) ≤ hf) (hhf2 : hf ≤ 2147483647) : pw X d h 123 0 [some (.ref 16), some (pw_i k), some (pw_i mo), some (pw_i wh), some (pw_i hf)] [] (fun h' v => pw_I h' ∧ pw_E [11] h h' ∧ ∃ a : Int, v = .inl (some (pw_i a)) ∧ 0 ≤ a ∧ a ≤ 1 ∧ (((a = 1 ∧ 0 ≤ k ∧ k ≤ 23 ∧ pw_g h 2 k.toNat = 1 ∧ 0 ≤ mo ∧ mo ≤ 11 ∧ ((wh = -1 ∧ hf = -1) ∨ (0 ≤ wh ∧ wh ≤ 99 ∧ hf = -1) ∨ (0 ≤ wh ∧ wh ≤ 99 ∧ 0 ≤ hf ∧ hf ≤ 99))) ∨ (a = 0 ∧ ¬ (0 ≤ k ∧ k ≤ 23 ∧ pw_g h 2 k.toNat = 1 ∧ 0 ≤ mo ∧ mo ≤ 11 ∧ ((wh = -1 ∧ hf = -1) ∨ (0 ≤ wh ∧ wh ≤ 99 ∧ hf = -1) ∨ (0 ≤ wh ∧ wh ≤ 99 ∧ 0 ≤ hf ∧ hf ≤ 99))))) ∧ (a = 1 → ∃ v : Int, pw_cv wh hf v ∧ pw_up h h' 11 (k * 12 + mo) (v)) ∧ (a = 0 → pw_sm h h' 11))) := by
  have E : pm_ent 123 = some (5, 5, 11, 1, pmc_123) := rfl
  have E0 : pw_E [11] h h := pw_E.rf _ _
  refine pw_ld E (pc' := 1) (st' := [.ref 16]) rfl (fun _ => rfl) ?_
  refine pw_ld E (pc' := 2) (st' := [pw_i k, .ref 16]) rfl (fun _ => rfl) ?_
  obtain ⟨f1l, f1h, -⟩ := pw_obj (c := 0) I rfl
  refine pw_call (m' := 124) (As := [.ref 16, pw_i k]) (rest := []) (ls'' := [some (.ref 16), some (pw_i k)]) (Nat.le_trans (by decide) hd) E rfl (fun _ => pw_iV rfl rfl rfl rfl (pw_cellI f1h rfl)) (rfl : pm_ent 124 = some (2, 2, 11, 1, pmc_124)) rfl rfl (cm_124_t (pw_dp hd (by decide)) I (k) (by omega) (by omega)) ?_
  rintro u3 v2 ⟨rfl, x4, rfl, hx4a, hx4b, hx4r⟩
  refine ⟨_, rfl, ?_⟩
  show pw X d h 123 5 [some (.ref 16), some (pw_i k), some (pw_i mo), some (pw_i wh), some (pw_i hf)] [pw_i x4] _
  change (x4 = 1 ∧ 0 ≤ k ∧ k ≤ 23 ∧ pw_g h 2 k.toNat = 1) ∨ (x4 = 0 ∧ ¬ (0 ≤ k ∧ k ≤ 23 ∧ pw_g h 2 k.toNat = 1)) at hx4r
  rcases (by omega : x4 = 1 ∨ x4 = 0) with hb5 | hb5
  · skip
    refine pw_if E (pc' := 15) rfl (by decide) (by omega) (by omega) ?_ ?_
    · intro hc6
      change x4 = (0 : Int) at hc6
      exfalso; omega
    · intro hc7
      change ¬ (x4 = (0 : Int)) at hc7
      refine pw_ld E (pc' := 9) (st' := [pw_i mo]) rfl (fun _ => rfl) ?_
      refine pw_call (m' := 125) (As := [pw_i mo]) (rest := []) (ls'' := [some (pw_i mo)]) (Nat.le_trans (by decide) hd) E rfl (fun _ => pw_iS rfl rfl rfl) (rfl : pm_ent 125 = some (1, 1, 11, 1, pmc_125)) rfl rfl (cm_125 (pw_dp hd (by decide)) I (mo) (by omega) (by omega)) ?_
      rintro u9 v8 ⟨rfl, x10, rfl, hx10a, hx10b, hx10r⟩
      refine ⟨_, rfl, ?_⟩
      show pw X d h 123 12 [some (.ref 16), some (pw_i k), some (pw_i mo), some (pw_i wh), some (pw_i hf)] [pw_i x10] _
      change (x10 = 1 ∧ 0 ≤ mo ∧ mo ≤ 11) ∨ (x10 = 0 ∧ ¬ (0 ≤ mo ∧ mo ≤ 11)) at hx10r
      rcases (by omega : x10 = 1 ∨ x10 = 0) with hb11 | hb11
      · skip
        refine pw_if E (pc' := 17) rfl (by decide) (by omega) (by omega) ?_ ?_
        · intro hc12
          change x10 ≠ (0 : Int) at hc12
          refine pw_ld E (pc' := 18) (st' := [pw_i wh]) rfl (fun _ => rfl) ?_
          refine pw_ld E (pc' := 19) (st' := [pw_i ((-1)), pw_i wh]) rfl (fun _ => rfl) ?_
          refine pw_if2 E (pc' := 39) rfl (by decide) (by omega) (by omega) (by decide) (by decide) ?_ ?_
          · intro hc13
            change wh ≠ ((-1) : Int) at hc13
            refine pw_ld E (pc' := 40) (st' := [pw_i wh]) rfl (fun _ => rfl) ?_
            refine pw_ld E (pc' := 41) (st' := [pw_i 0, pw_i wh]) rfl (fun _ => rfl) ?_
            refine pw_bip E (pc' := 43) rfl rfl (by decide) ?_
            refine pw_call (m' := 121) (As := [pw_i wh, pw_i 0, pw_i 99]) (rest := []) (ls'' := [some (pw_i wh), some (pw_i 0), some (pw_i 99)]) (Nat.le_trans (by decide) hd) E rfl (fun _ => pw_iS rfl rfl rfl) (rfl : pm_ent 121 = some (3, 3, 11, 1, pmc_121)) rfl rfl (cm_121 (pw_dp hd (by decide)) I (wh) (by omega) (by omega) (0) (by omega) (by omega) (99) (by omega) (by omega)) ?_
            rintro u15 v14 ⟨rfl, x16, rfl, hx16a, hx16b, hx16r⟩
            refine ⟨_, rfl, ?_⟩
            show pw X d h 123 46 [some (.ref 16), some (pw_i k), some (pw_i mo), some (pw_i wh), some (pw_i hf)] [pw_i x16] _
            change (x16 = 1 ∧ 0 ≤ wh ∧ wh ≤ 99) ∨ (x16 = 0 ∧ ¬ (0 ≤ wh ∧ wh ≤ 99)) at hx16r
            rcases (by omega : x16 = 1 ∨ x16 = 0) with hb17 | hb17
            · skip
              refine pw_if E (pc' := 51) rfl (by decide) (by omega) (by omega) ?_ ?_
              · intro hc18
                change x16 ≠ (0 : Int) at hc18
                refine pw_ld E (pc' := 53) (st' := [pw_i hf]) rfl (fun _ => rfl) ?_
                refine pw_ld E (pc' := 54) (st' := [pw_i ((-1)), pw_i hf]) rfl (fun _ => rfl) ?_
                refine pw_if2 E (pc' := 68) rfl (by decide) (by omega) (by omega) (by decide) (by decide) ?_ ?_
                · intro hc19
                  change hf ≠ ((-1) : Int) at hc19
                  refine pw_ld E (pc' := 70) (st' := [pw_i hf]) rfl (fun _ => rfl) ?_
                  refine pw_ld E (pc' := 71) (st' := [pw_i 0, pw_i hf]) rfl (fun _ => rfl) ?_
                  refine pw_bip E (pc' := 73) rfl rfl (by decide) ?_
                  refine pw_call (m' := 121) (As := [pw_i hf, pw_i 0, pw_i 99]) (rest := []) (ls'' := [some (pw_i hf), some (pw_i 0), some (pw_i 99)]) (Nat.le_trans (by decide) hd) E rfl (fun _ => pw_iS rfl rfl rfl) (rfl : pm_ent 121 = some (3, 3, 11, 1, pmc_121)) rfl rfl (cm_121 (pw_dp hd (by decide)) I (hf) (by omega) (by omega) (0) (by omega) (by omega) (99) (by omega) (by omega)) ?_
                  rintro u21 v20 ⟨rfl, x22, rfl, hx22a, hx22b, hx22r⟩
                  refine ⟨_, rfl, ?_⟩
                  show pw X d h 123 76 [some (.ref 16), some (pw_i k), some (pw_i mo), some (pw_i wh), some (pw_i hf)] [pw_i x22] _
                  change (x22 = 1 ∧ 0 ≤ hf ∧ hf ≤ 99) ∨ (x22 = 0 ∧ ¬ (0 ≤ hf ∧ hf ≤ 99)) at hx22r
                  rcases (by omega : x22 = 1 ∨ x22 = 0) with hb23 | hb23
                  · skip
                    refine pw_if E (pc' := 81) rfl (by decide) (by omega) (by omega) ?_ ?_
                    · intro hc24
                      change x22 ≠ (0 : Int) at hc24
                      refine pw_ld E (pc' := 82) (st' := [.ref 16]) rfl (fun _ => rfl) ?_
                      refine pw_getR (b := 26) I E (c := 0) (k := 2) (pc' := 85) rfl rfl rfl rfl rfl rfl rfl ?_
                      refine pw_ld E (pc' := 86) (st' := [pw_i k, .ref 26]) rfl (fun _ => rfl) ?_
                      refine pw_ld E (pc' := 87) (st' := [pw_i mo, pw_i k, .ref 26]) rfl (fun _ => rfl) ?_
                      refine pw_ld E (pc' := 88) (st' := [pw_i wh, pw_i mo, pw_i k, .ref 26]) rfl (fun _ => rfl) ?_
                      refine pw_ld E (pc' := 90) (st' := [pw_i hf, pw_i wh, pw_i mo, pw_i k, .ref 26]) rfl (fun _ => rfl) ?_
                      obtain ⟨f25l, f25h, -⟩ := pw_obj (c := 10) I rfl
                      refine pw_call (m' := 18) (As := [.ref 26, pw_i k, pw_i mo, pw_i wh, pw_i hf]) (rest := []) (ls'' := [some (.ref 26), some (pw_i k), some (pw_i mo), some (pw_i wh), some (pw_i hf)]) (Nat.le_trans (by decide) hd) E rfl (fun _ => pw_iV rfl rfl rfl rfl (pw_cellI f25h rfl)) (rfl : pm_ent 18 = some (5, 5, 2, 4, pmc_18)) rfl rfl (cm_18_10h (pw_dp hd (by decide)) I (k) (by omega) (by omega) (mo) (by omega) (by omega) (wh) (by omega) (by omega) (hf) (by omega) (by omega)) ?_
                      rintro h26 v27 ⟨h26I, h26E, hqup, rfl⟩
                      refine ⟨_, rfl, ?_⟩
                      have h26F := E0.tr (h26E.wk (W' := [11]) (by first | rfl | simp))
                      show pw X d h26 123 93 [some (.ref 16), some (pw_i k), some (pw_i mo), some (pw_i wh), some (pw_i hf)] [] _
                      refine pw_ld E (pc' := 94) (st' := [pw_i 1]) rfl (fun _ => rfl) ?_
                      refine pw_zret E rfl (by omega) ?_
                      exact ⟨h26I, h26F, ⟨_, rfl, by omega, by omega, ⟨by omega, fun _ => ⟨_, (by unfold pw_cv; omega), hqup⟩, fun q => absurd q (by omega)⟩⟩⟩
                    · intro hc28
                      change ¬ (x22 ≠ (0 : Int)) at hc28
                      exfalso; omega
                  · skip
                    refine pw_if E (pc' := 81) rfl (by decide) (by omega) (by omega) ?_ ?_
                    · intro hc30
                      change x22 ≠ (0 : Int) at hc30
                      exfalso; omega
                    · intro hc31
                      change ¬ (x22 ≠ (0 : Int)) at hc31
                      refine pw_ld E (pc' := 80) (st' := [pw_i 0]) rfl (fun _ => rfl) ?_
                      refine pw_zret E rfl (by omega) ?_
                      have hl32 : ∀ j : Nat, pw_g h 11 j = pw_g h 11 j := fun j => rfl
                      exact ⟨I, E0, ⟨_, rfl, by omega, by omega, ⟨by omega, fun q => absurd q (by omega), fun _ => hl32⟩⟩⟩
                · intro hc33
                  change ¬ (hf ≠ ((-1) : Int)) at hc33
                  refine pw_ld E (pc' := 58) (st' := [.ref 16]) rfl (fun _ => rfl) ?_
                  refine pw_getR (b := 26) I E (c := 0) (k := 2) (pc' := 61) rfl rfl rfl rfl rfl rfl rfl ?_
                  refine pw_ld E (pc' := 62) (st' := [pw_i k, .ref 26]) rfl (fun _ => rfl) ?_
                  refine pw_ld E (pc' := 63) (st' := [pw_i mo, pw_i k, .ref 26]) rfl (fun _ => rfl) ?_
                  obtain ⟨f34l, f34h, -⟩ := pw_obj (c := 10) I rfl
                  refine pw_call (m' := 17) (As := [.ref 26, pw_i k, pw_i mo]) (rest := []) (ls'' := [some (.ref 26), some (pw_i k), some (pw_i mo)]) (Nat.le_trans (by decide) hd) E rfl (fun _ => pw_iV rfl rfl rfl rfl (pw_cellI f34h rfl)) (rfl : pm_ent 17 = some (3, 3, 2, 4, pmc_17)) rfl rfl (cm_17_10h (pw_dp hd (by decide)) I (k) (by omega) (by omega) (mo) (by omega) (by omega)) ?_
                  rintro h35 v36 ⟨h35I, h35E, hqup, rfl⟩
                  refine ⟨_, rfl, ?_⟩
                  have h35F := E0.tr (h35E.wk (W' := [11]) (by first | rfl | simp))
                  show pw X d h35 123 66 [some (.ref 16), some (pw_i k), some (pw_i mo), some (pw_i wh), some (pw_i hf)] [] _
                  refine pw_ld E (pc' := 67) (st' := [pw_i 1]) rfl (fun _ => rfl) ?_
                  refine pw_zret E rfl (by omega) ?_
                  exact ⟨h35I, h35F, ⟨_, rfl, by omega, by omega, ⟨by omega, fun _ => ⟨_, (by unfold pw_cv; omega), hqup⟩, fun q => absurd q (by omega)⟩⟩⟩
              · intro hc37
                change ¬ (x16 ≠ (0 : Int)) at hc37
                exfalso; omega
            · skip
              refine pw_if E (pc' := 51) rfl (by decide) (by omega) (by omega) ?_ ?_
              · intro hc39
                change x16 ≠ (0 : Int) at hc39
                exfalso; omega
              · intro hc40
                change ¬ (x16 ≠ (0 : Int)) at hc40
                refine pw_ld E (pc' := 50) (st' := [pw_i 0]) rfl (fun _ => rfl) ?_
                refine pw_zret E rfl (by omega) ?_
                have hl41 : ∀ j : Nat, pw_g h 11 j = pw_g h 11 j := fun j => rfl
                exact ⟨I, E0, ⟨_, rfl, by omega, by omega, ⟨by omega, fun q => absurd q (by omega), fun _ => hl41⟩⟩⟩
          · intro hc42
            change ¬ (wh ≠ ((-1) : Int)) at hc42
            refine pw_ld E (pc' := 24) (st' := [pw_i hf]) rfl (fun _ => rfl) ?_
            refine pw_ld E (pc' := 25) (st' := [pw_i ((-1)), pw_i hf]) rfl (fun _ => rfl) ?_
            refine pw_if2 E (pc' := 39) rfl (by decide) (by omega) (by omega) (by decide) (by decide) ?_ ?_
            · intro hc43
              change hf ≠ ((-1) : Int) at hc43
              refine pw_ld E (pc' := 40) (st' := [pw_i wh]) rfl (fun _ => rfl) ?_
              refine pw_ld E (pc' := 41) (st' := [pw_i 0, pw_i wh]) rfl (fun _ => rfl) ?_
              refine pw_bip E (pc' := 43) rfl rfl (by decide) ?_
              refine pw_call (m' := 121) (As := [pw_i wh, pw_i 0, pw_i 99]) (rest := []) (ls'' := [some (pw_i wh), some (pw_i 0), some (pw_i 99)]) (Nat.le_trans (by decide) hd) E rfl (fun _ => pw_iS rfl rfl rfl) (rfl : pm_ent 121 = some (3, 3, 11, 1, pmc_121)) rfl rfl (cm_121 (pw_dp hd (by decide)) I (wh) (by omega) (by omega) (0) (by omega) (by omega) (99) (by omega) (by omega)) ?_
              rintro u45 v44 ⟨rfl, x46, rfl, hx46a, hx46b, hx46r⟩
              refine ⟨_, rfl, ?_⟩
              show pw X d h 123 46 [some (.ref 16), some (pw_i k), some (pw_i mo), some (pw_i wh), some (pw_i hf)] [pw_i x46] _
              change (x46 = 1 ∧ 0 ≤ wh ∧ wh ≤ 99) ∨ (x46 = 0 ∧ ¬ (0 ≤ wh ∧ wh ≤ 99)) at hx46r
              rcases (by omega : x46 = 1 ∨ x46 = 0) with hb47 | hb47
              · skip
                refine pw_if E (pc' := 51) rfl (by decide) (by omega) (by omega) ?_ ?_
                · intro hc48
                  change x46 ≠ (0 : Int) at hc48
                  exfalso; omega
                · intro hc49
                  change ¬ (x46 ≠ (0 : Int)) at hc49
                  exfalso; omega
              · skip
                refine pw_if E (pc' := 51) rfl (by decide) (by omega) (by omega) ?_ ?_
                · intro hc51
                  change x46 ≠ (0 : Int) at hc51
                  exfalso; omega
                · intro hc52
                  change ¬ (x46 ≠ (0 : Int)) at hc52
                  refine pw_ld E (pc' := 50) (st' := [pw_i 0]) rfl (fun _ => rfl) ?_
                  refine pw_zret E rfl (by omega) ?_
                  have hl53 : ∀ j : Nat, pw_g h 11 j = pw_g h 11 j := fun j => rfl
                  exact ⟨I, E0, ⟨_, rfl, by omega, by omega, ⟨by omega, fun q => absurd q (by omega), fun _ => hl53⟩⟩⟩
            · intro hc54
              change ¬ (hf ≠ ((-1) : Int)) at hc54
              refine pw_ld E (pc' := 29) (st' := [.ref 16]) rfl (fun _ => rfl) ?_
              refine pw_getR (b := 26) I E (c := 0) (k := 2) (pc' := 32) rfl rfl rfl rfl rfl rfl rfl ?_
              refine pw_ld E (pc' := 33) (st' := [pw_i k, .ref 26]) rfl (fun _ => rfl) ?_
              refine pw_ld E (pc' := 34) (st' := [pw_i mo, pw_i k, .ref 26]) rfl (fun _ => rfl) ?_
              obtain ⟨f55l, f55h, -⟩ := pw_obj (c := 10) I rfl
              refine pw_call (m' := 16) (As := [.ref 26, pw_i k, pw_i mo]) (rest := []) (ls'' := [some (.ref 26), some (pw_i k), some (pw_i mo)]) (Nat.le_trans (by decide) hd) E rfl (fun _ => pw_iV rfl rfl rfl rfl (pw_cellI f55h rfl)) (rfl : pm_ent 16 = some (3, 3, 2, 4, pmc_16)) rfl rfl (cm_16_10h (pw_dp hd (by decide)) I (k) (by omega) (by omega) (mo) (by omega) (by omega)) ?_
              rintro h56 v57 ⟨h56I, h56E, hqup, rfl⟩
              refine ⟨_, rfl, ?_⟩
              have h56F := E0.tr (h56E.wk (W' := [11]) (by first | rfl | simp))
              show pw X d h56 123 37 [some (.ref 16), some (pw_i k), some (pw_i mo), some (pw_i wh), some (pw_i hf)] [] _
              refine pw_ld E (pc' := 38) (st' := [pw_i 1]) rfl (fun _ => rfl) ?_
              refine pw_zret E rfl (by omega) ?_
              exact ⟨h56I, h56F, ⟨_, rfl, by omega, by omega, ⟨by omega, fun _ => ⟨_, (by unfold pw_cv; omega), hqup⟩, fun q => absurd q (by omega)⟩⟩⟩
        · intro hc58
          change ¬ (x10 ≠ (0 : Int)) at hc58
          exfalso; omega
      · skip
        refine pw_if E (pc' := 17) rfl (by decide) (by omega) (by omega) ?_ ?_
        · intro hc60
          change x10 ≠ (0 : Int) at hc60
          exfalso; omega
        · intro hc61
          change ¬ (x10 ≠ (0 : Int)) at hc61
          refine pw_ld E (pc' := 16) (st' := [pw_i 0]) rfl (fun _ => rfl) ?_
          refine pw_zret E rfl (by omega) ?_
          have hl62 : ∀ j : Nat, pw_g h 11 j = pw_g h 11 j := fun j => rfl
          exact ⟨I, E0, ⟨_, rfl, by omega, by omega, ⟨by omega, fun q => absurd q (by omega), fun _ => hl62⟩⟩⟩
  · skip
    refine pw_if E (pc' := 15) rfl (by decide) (by omega) (by omega) ?_ ?_
    · intro hc64
      change x4 = (0 : Int) at hc64
      refine pw_ld E (pc' := 16) (st' := [pw_i 0]) rfl (fun _ => rfl) ?_
      refine pw_zret E rfl (by omega) ?_
      have hl65 : ∀ j : Nat, pw_g h 11 j = pw_g h 11 j := fun j => rfl
      exact ⟨I, E0, ⟨_, rfl, by omega, by omega, ⟨by omega, fun q => absurd q (by omega), fun _ => hl65⟩⟩⟩
    · intro hc66
      change ¬ (x4 = (0 : Int)) at hc66
      exfalso; omega
set_option maxHeartbeats 4000000 in
theorem cm_126_h {X : List (Nat × List Value)} {d : Nat} {h : pm_H} (hd : 4 ≤ d) (I : pw_I h) (k : Int) (hk1 : (-2147483648) ≤ k) (hk2 : k ≤ 2147483647) (mo : Int) (hmo1 : (-2147483648) ≤ mo) (hmo2 : mo ≤ 2147483647) (wh : Int) (hwh1 : (-2147483648) ≤ wh) (hwh2 : wh ≤ 2147483647) (hf : Int) (hhf1 : (-2147483648) ≤ hf) (hhf2 : hf ≤ 2147483647) : pw X d h 126 0 [some (.ref 16), some (pw_i k), some (pw_i mo), some (pw_i wh), some (pw_i hf)] [] (fun h' v => pw_I h' ∧ pw_E [13] h h' ∧ ∃ a : Int, v = .inl (some (pw_i a)) ∧ 0 ≤ a ∧ a ≤ 1 ∧ (((a = 1 ∧ 0 ≤ k ∧ k ≤ 23 ∧ pw_g h 2 k.toNat = 1 ∧ 0 ≤ mo ∧ mo ≤ 11 ∧ 0 ≤ wh ∧ wh ≤ 99 ∧ 0 ≤ hf ∧ hf ≤ 99) ∨ (a = 0 ∧ ¬ (0 ≤ k ∧ k ≤ 23 ∧ pw_g h 2 k.toNat = 1 ∧ 0 ≤ mo ∧ mo ≤ 11 ∧ 0 ≤ wh ∧ wh ≤ 99 ∧ 0 ≤ hf ∧ hf ≤ 99))) ∧ (a = 1 → pw_up h h' 13 (k * 12 + mo) (wh * 100 + hf)) ∧ (a = 0 → pw_sm h h' 13))) := by
  have E : pm_ent 126 = some (5, 5, 11, 1, pmc_126) := rfl
  have E0 : pw_E [13] h h := pw_E.rf _ _
  refine pw_ld E (pc' := 1) (st' := [.ref 16]) rfl (fun _ => rfl) ?_
  refine pw_ld E (pc' := 2) (st' := [pw_i k, .ref 16]) rfl (fun _ => rfl) ?_
  obtain ⟨f1l, f1h, -⟩ := pw_obj (c := 0) I rfl
  refine pw_call (m' := 124) (As := [.ref 16, pw_i k]) (rest := []) (ls'' := [some (.ref 16), some (pw_i k)]) (Nat.le_trans (by decide) hd) E rfl (fun _ => pw_iV rfl rfl rfl rfl (pw_cellI f1h rfl)) (rfl : pm_ent 124 = some (2, 2, 11, 1, pmc_124)) rfl rfl (cm_124_t (pw_dp hd (by decide)) I (k) (by omega) (by omega)) ?_
  rintro u3 v2 ⟨rfl, x4, rfl, hx4a, hx4b, hx4r⟩
  refine ⟨_, rfl, ?_⟩
  show pw X d h 126 5 [some (.ref 16), some (pw_i k), some (pw_i mo), some (pw_i wh), some (pw_i hf)] [pw_i x4] _
  change (x4 = 1 ∧ 0 ≤ k ∧ k ≤ 23 ∧ pw_g h 2 k.toNat = 1) ∨ (x4 = 0 ∧ ¬ (0 ≤ k ∧ k ≤ 23 ∧ pw_g h 2 k.toNat = 1)) at hx4r
  rcases (by omega : x4 = 1 ∨ x4 = 0) with hb5 | hb5
  · skip
    refine pw_if E (pc' := 36) rfl (by decide) (by omega) (by omega) ?_ ?_
    · intro hc6
      change x4 = (0 : Int) at hc6
      exfalso; omega
    · intro hc7
      change ¬ (x4 = (0 : Int)) at hc7
      refine pw_ld E (pc' := 9) (st' := [pw_i mo]) rfl (fun _ => rfl) ?_
      refine pw_call (m' := 125) (As := [pw_i mo]) (rest := []) (ls'' := [some (pw_i mo)]) (Nat.le_trans (by decide) hd) E rfl (fun _ => pw_iS rfl rfl rfl) (rfl : pm_ent 125 = some (1, 1, 11, 1, pmc_125)) rfl rfl (cm_125 (pw_dp hd (by decide)) I (mo) (by omega) (by omega)) ?_
      rintro u9 v8 ⟨rfl, x10, rfl, hx10a, hx10b, hx10r⟩
      refine ⟨_, rfl, ?_⟩
      show pw X d h 126 12 [some (.ref 16), some (pw_i k), some (pw_i mo), some (pw_i wh), some (pw_i hf)] [pw_i x10] _
      change (x10 = 1 ∧ 0 ≤ mo ∧ mo ≤ 11) ∨ (x10 = 0 ∧ ¬ (0 ≤ mo ∧ mo ≤ 11)) at hx10r
      rcases (by omega : x10 = 1 ∨ x10 = 0) with hb11 | hb11
      · skip
        refine pw_if E (pc' := 36) rfl (by decide) (by omega) (by omega) ?_ ?_
        · intro hc12
          change x10 = (0 : Int) at hc12
          exfalso; omega
        · intro hc13
          change ¬ (x10 = (0 : Int)) at hc13
          refine pw_ld E (pc' := 16) (st' := [pw_i wh]) rfl (fun _ => rfl) ?_
          refine pw_ld E (pc' := 17) (st' := [pw_i 0, pw_i wh]) rfl (fun _ => rfl) ?_
          refine pw_bip E (pc' := 19) rfl rfl (by decide) ?_
          refine pw_call (m' := 121) (As := [pw_i wh, pw_i 0, pw_i 99]) (rest := []) (ls'' := [some (pw_i wh), some (pw_i 0), some (pw_i 99)]) (Nat.le_trans (by decide) hd) E rfl (fun _ => pw_iS rfl rfl rfl) (rfl : pm_ent 121 = some (3, 3, 11, 1, pmc_121)) rfl rfl (cm_121 (pw_dp hd (by decide)) I (wh) (by omega) (by omega) (0) (by omega) (by omega) (99) (by omega) (by omega)) ?_
          rintro u15 v14 ⟨rfl, x16, rfl, hx16a, hx16b, hx16r⟩
          refine ⟨_, rfl, ?_⟩
          show pw X d h 126 22 [some (.ref 16), some (pw_i k), some (pw_i mo), some (pw_i wh), some (pw_i hf)] [pw_i x16] _
          change (x16 = 1 ∧ 0 ≤ wh ∧ wh ≤ 99) ∨ (x16 = 0 ∧ ¬ (0 ≤ wh ∧ wh ≤ 99)) at hx16r
          rcases (by omega : x16 = 1 ∨ x16 = 0) with hb17 | hb17
          · skip
            refine pw_if E (pc' := 36) rfl (by decide) (by omega) (by omega) ?_ ?_
            · intro hc18
              change x16 = (0 : Int) at hc18
              exfalso; omega
            · intro hc19
              change ¬ (x16 = (0 : Int)) at hc19
              refine pw_ld E (pc' := 27) (st' := [pw_i hf]) rfl (fun _ => rfl) ?_
              refine pw_ld E (pc' := 28) (st' := [pw_i 0, pw_i hf]) rfl (fun _ => rfl) ?_
              refine pw_bip E (pc' := 30) rfl rfl (by decide) ?_
              refine pw_call (m' := 121) (As := [pw_i hf, pw_i 0, pw_i 99]) (rest := []) (ls'' := [some (pw_i hf), some (pw_i 0), some (pw_i 99)]) (Nat.le_trans (by decide) hd) E rfl (fun _ => pw_iS rfl rfl rfl) (rfl : pm_ent 121 = some (3, 3, 11, 1, pmc_121)) rfl rfl (cm_121 (pw_dp hd (by decide)) I (hf) (by omega) (by omega) (0) (by omega) (by omega) (99) (by omega) (by omega)) ?_
              rintro u21 v20 ⟨rfl, x22, rfl, hx22a, hx22b, hx22r⟩
              refine ⟨_, rfl, ?_⟩
              show pw X d h 126 33 [some (.ref 16), some (pw_i k), some (pw_i mo), some (pw_i wh), some (pw_i hf)] [pw_i x22] _
              change (x22 = 1 ∧ 0 ≤ hf ∧ hf ≤ 99) ∨ (x22 = 0 ∧ ¬ (0 ≤ hf ∧ hf ≤ 99)) at hx22r
              rcases (by omega : x22 = 1 ∨ x22 = 0) with hb23 | hb23
              · skip
                refine pw_if E (pc' := 38) rfl (by decide) (by omega) (by omega) ?_ ?_
                · intro hc24
                  change x22 ≠ (0 : Int) at hc24
                  refine pw_ld E (pc' := 39) (st' := [.ref 16]) rfl (fun _ => rfl) ?_
                  refine pw_getR (b := 28) I E (c := 0) (k := 3) (pc' := 42) rfl rfl rfl rfl rfl rfl rfl ?_
                  refine pw_ld E (pc' := 43) (st' := [pw_i k, .ref 28]) rfl (fun _ => rfl) ?_
                  refine pw_ld E (pc' := 44) (st' := [pw_i mo, pw_i k, .ref 28]) rfl (fun _ => rfl) ?_
                  refine pw_ld E (pc' := 45) (st' := [pw_i wh, pw_i mo, pw_i k, .ref 28]) rfl (fun _ => rfl) ?_
                  refine pw_ld E (pc' := 47) (st' := [pw_i hf, pw_i wh, pw_i mo, pw_i k, .ref 28]) rfl (fun _ => rfl) ?_
                  obtain ⟨f25l, f25h, -⟩ := pw_obj (c := 12) I rfl
                  refine pw_call (m' := 18) (As := [.ref 28, pw_i k, pw_i mo, pw_i wh, pw_i hf]) (rest := []) (ls'' := [some (.ref 28), some (pw_i k), some (pw_i mo), some (pw_i wh), some (pw_i hf)]) (Nat.le_trans (by decide) hd) E rfl (fun _ => pw_iV rfl rfl rfl rfl (pw_cellI f25h rfl)) (rfl : pm_ent 18 = some (5, 5, 2, 4, pmc_18)) rfl rfl (cm_18_12h (pw_dp hd (by decide)) I (k) (by omega) (by omega) (mo) (by omega) (by omega) (wh) (by omega) (by omega) (hf) (by omega) (by omega)) ?_
                  rintro h26 v27 ⟨h26I, h26E, hqup, rfl⟩
                  refine ⟨_, rfl, ?_⟩
                  have h26F := E0.tr (h26E.wk (W' := [13]) (by first | rfl | simp))
                  show pw X d h26 126 50 [some (.ref 16), some (pw_i k), some (pw_i mo), some (pw_i wh), some (pw_i hf)] [] _
                  refine pw_ld E (pc' := 51) (st' := [pw_i 1]) rfl (fun _ => rfl) ?_
                  refine pw_zret E rfl (by omega) ?_
                  exact ⟨h26I, h26F, ⟨_, rfl, by omega, by omega, ⟨by omega, fun _ => hqup, fun q => absurd q (by omega)⟩⟩⟩
                · intro hc28
                  change ¬ (x22 ≠ (0 : Int)) at hc28
                  exfalso; omega
              · skip
                refine pw_if E (pc' := 38) rfl (by decide) (by omega) (by omega) ?_ ?_
                · intro hc30
                  change x22 ≠ (0 : Int) at hc30
                  exfalso; omega
                · intro hc31
                  change ¬ (x22 ≠ (0 : Int)) at hc31
                  refine pw_ld E (pc' := 37) (st' := [pw_i 0]) rfl (fun _ => rfl) ?_
                  refine pw_zret E rfl (by omega) ?_
                  have hl32 : ∀ j : Nat, pw_g h 13 j = pw_g h 13 j := fun j => rfl
                  exact ⟨I, E0, ⟨_, rfl, by omega, by omega, ⟨by omega, fun q => absurd q (by omega), fun _ => hl32⟩⟩⟩
          · skip
            refine pw_if E (pc' := 36) rfl (by decide) (by omega) (by omega) ?_ ?_
            · intro hc34
              change x16 = (0 : Int) at hc34
              refine pw_ld E (pc' := 37) (st' := [pw_i 0]) rfl (fun _ => rfl) ?_
              refine pw_zret E rfl (by omega) ?_
              have hl35 : ∀ j : Nat, pw_g h 13 j = pw_g h 13 j := fun j => rfl
              exact ⟨I, E0, ⟨_, rfl, by omega, by omega, ⟨by omega, fun q => absurd q (by omega), fun _ => hl35⟩⟩⟩
            · intro hc36
              change ¬ (x16 = (0 : Int)) at hc36
              exfalso; omega
      · skip
        refine pw_if E (pc' := 36) rfl (by decide) (by omega) (by omega) ?_ ?_
        · intro hc38
          change x10 = (0 : Int) at hc38
          refine pw_ld E (pc' := 37) (st' := [pw_i 0]) rfl (fun _ => rfl) ?_
          refine pw_zret E rfl (by omega) ?_
          have hl39 : ∀ j : Nat, pw_g h 13 j = pw_g h 13 j := fun j => rfl
          exact ⟨I, E0, ⟨_, rfl, by omega, by omega, ⟨by omega, fun q => absurd q (by omega), fun _ => hl39⟩⟩⟩
        · intro hc40
          change ¬ (x10 = (0 : Int)) at hc40
          exfalso; omega
  · skip
    refine pw_if E (pc' := 36) rfl (by decide) (by omega) (by omega) ?_ ?_
    · intro hc42
      change x4 = (0 : Int) at hc42
      refine pw_ld E (pc' := 37) (st' := [pw_i 0]) rfl (fun _ => rfl) ?_
      refine pw_zret E rfl (by omega) ?_
      have hl43 : ∀ j : Nat, pw_g h 13 j = pw_g h 13 j := fun j => rfl
      exact ⟨I, E0, ⟨_, rfl, by omega, by omega, ⟨by omega, fun q => absurd q (by omega), fun _ => hl43⟩⟩⟩
    · intro hc44
      change ¬ (x4 = (0 : Int)) at hc44
      exfalso; omega
set_option maxHeartbeats 4000000 in
theorem cm_203_h {X : List (Nat × List Value)} {d : Nat} {h : pm_H} (hd : 3 ≤ d) (I : pw_I h) (k : Int) (hk1 : (-2147483648) ≤ k) (hk2 : k ≤ 2147483647) (mo : Int) (hmo1 : (-2147483648) ≤ mo) (hmo2 : mo ≤ 2147483647) (wh : Int) (hwh1 : (-2147483648) ≤ wh) (hwh2 : wh ≤ 2147483647) (hf : Int) (hhf1 : (-2147483648) ≤ hf) (hhf2 : hf ≤ 2147483647) : pw X d h 203 0 [some (.ref 141), some (pw_i k), some (pw_i mo), some (pw_i wh), some (pw_i hf), none, none, none] [] (fun h' v => pw_I h' ∧ pw_E [125, 138, 139, 140] h h' ∧ ∃ a : Int, v = .inl (some (pw_i a)) ∧ 0 ≤ a ∧ a ≤ 1 ∧ (((a = 1 ∧ 0 ≤ k ∧ k ≤ 23 ∧ pw_g h 131 k.toNat = 1 ∧ 0 ≤ mo ∧ mo ≤ 11 ∧ ((wh = -1 ∧ hf = -1) ∨ (0 ≤ wh ∧ wh ≤ 99 ∧ hf = -1) ∨ (0 ≤ wh ∧ wh ≤ 99 ∧ 0 ≤ hf ∧ hf ≤ 99))) ∨ (a = 0 ∧ ¬ (0 ≤ k ∧ k ≤ 23 ∧ pw_g h 131 k.toNat = 1 ∧ 0 ≤ mo ∧ mo ≤ 11 ∧ ((wh = -1 ∧ hf = -1) ∨ (0 ≤ wh ∧ wh ≤ 99 ∧ hf = -1) ∨ (0 ≤ wh ∧ wh ≤ 99 ∧ 0 ≤ hf ∧ hf ≤ 99))))) ∧ (a = 1 → ∃ v w g : Int, pw_mv wh hf v w g ∧ pw_up h h' 138 (12 * k + mo) (v) ∧ pw_up h h' 139 (12 * k + mo) (w) ∧ pw_up h h' 140 (12 * k + mo) (g)) ∧ (a = 0 → pw_sm h h' 138 ∧ pw_sm h h' 139 ∧ pw_sm h h' 140))) := by
  have E : pm_ent 203 = some (5, 8, 12, 1, pmc_203) := rfl
  have E0 : pw_E [125, 138, 139, 140] h h := pw_E.rf _ _
  refine pw_ld E (pc' := 1) (st' := [.ref 141]) rfl (fun _ => rfl) ?_
  refine pw_ld E (pc' := 2) (st' := [pw_i 0, .ref 141]) rfl (fun _ => rfl) ?_
  refine pw_putI I E (c := 125) (k := 0) (pc' := 5) rfl rfl rfl rfl (by omega) (by omega) (by omega) (by omega) rfl rfl ?_
  intro h1I h1E
  generalize h1w : pw_w h 125 0 (pw_i 0) = h1 at h1I h1E ⊢
  have h1F := E0.tr (h1E.wk (W' := [125, 138, 139, 140]) (by first | rfl | simp))
  have ht1 : pw_g h1 131 k.toNat = pw_g h 131 k.toNat := by rw [← h1w]; exact pw_g_ne (by omega)
  refine pw_ld E (pc' := 6) (st' := [.ref 141]) rfl (fun _ => rfl) ?_
  refine pw_ld E (pc' := 7) (st' := [pw_i k, .ref 141]) rfl (fun _ => rfl) ?_
  obtain ⟨f2l, f2h, -⟩ := pw_obj (c := 125) h1I rfl
  refine pw_call (m' := 204) (As := [.ref 141, pw_i k]) (rest := []) (ls'' := [some (.ref 141), some (pw_i k)]) (Nat.le_trans (by decide) hd) E rfl (fun _ => pw_iV rfl rfl rfl rfl (pw_cellI f2h rfl)) (rfl : pm_ent 204 = some (2, 2, 12, 1, pmc_204)) rfl rfl (cm_204_t (pw_dp hd (by decide)) h1I (k) (by omega) (by omega)) ?_
  rintro u4 v3 ⟨rfl, x5, rfl, hx5a, hx5b, hx5r⟩
  refine ⟨_, rfl, ?_⟩
  show pw X d h1 203 10 [some (.ref 141), some (pw_i k), some (pw_i mo), some (pw_i wh), some (pw_i hf), none, none, none] [pw_i x5] _
  change (x5 = 1 ∧ 0 ≤ k ∧ k ≤ 23 ∧ pw_g h1 131 k.toNat = 1) ∨ (x5 = 0 ∧ ¬ (0 ≤ k ∧ k ≤ 23 ∧ pw_g h1 131 k.toNat = 1)) at hx5r
  rcases (by omega : x5 = 1 ∨ x5 = 0) with hb6 | hb6
  · skip
    refine pw_if E (pc' := 20) rfl (by decide) (by omega) (by omega) ?_ ?_
    · intro hc7
      change x5 = (0 : Int) at hc7
      exfalso; omega
    · intro hc8
      change ¬ (x5 = (0 : Int)) at hc8
      refine pw_ld E (pc' := 14) (st' := [pw_i mo]) rfl (fun _ => rfl) ?_
      refine pw_call (m' := 205) (As := [pw_i mo]) (rest := []) (ls'' := [some (pw_i mo)]) (Nat.le_trans (by decide) hd) E rfl (fun _ => pw_iS rfl rfl rfl) (rfl : pm_ent 205 = some (1, 1, 12, 1, pmc_205)) rfl rfl (cm_205 (pw_dp hd (by decide)) h1I (mo) (by omega) (by omega)) ?_
      rintro u10 v9 ⟨rfl, x11, rfl, hx11a, hx11b, hx11r⟩
      refine ⟨_, rfl, ?_⟩
      show pw X d h1 203 17 [some (.ref 141), some (pw_i k), some (pw_i mo), some (pw_i wh), some (pw_i hf), none, none, none] [pw_i x11] _
      change (x11 = 1 ∧ 0 ≤ mo ∧ mo ≤ 11) ∨ (x11 = 0 ∧ ¬ (0 ≤ mo ∧ mo ≤ 11)) at hx11r
      rcases (by omega : x11 = 1 ∨ x11 = 0) with hb12 | hb12
      · skip
        refine pw_if E (pc' := 22) rfl (by decide) (by omega) (by omega) ?_ ?_
        · intro hc13
          change x11 ≠ (0 : Int) at hc13
          refine pw_ld E (pc' := 23) (st' := [pw_i wh]) rfl (fun _ => rfl) ?_
          refine pw_ld E (pc' := 24) (st' := [pw_i ((-1)), pw_i wh]) rfl (fun _ => rfl) ?_
          refine pw_if2 E (pc' := 37) rfl (by decide) (by omega) (by omega) (by decide) (by decide) ?_ ?_
          · intro hc14
            change wh ≠ ((-1) : Int) at hc14
            refine pw_ld E (pc' := 38) (st' := [pw_i 0]) rfl (fun _ => rfl) ?_
            refine pw_ist E (pc' := 40) (ls' := [some (.ref 141), some (pw_i k), some (pw_i mo), some (pw_i wh), some (pw_i hf), some (pw_i 0), none, none]) rfl rfl rfl rfl ?_
            refine pw_ld E (pc' := 41) (st' := [pw_i wh]) rfl (fun _ => rfl) ?_
            refine pw_ld E (pc' := 42) (st' := [pw_i 0, pw_i wh]) rfl (fun _ => rfl) ?_
            refine pw_bip E (pc' := 44) rfl rfl (by decide) ?_
            refine pw_call (m' := 202) (As := [pw_i wh, pw_i 0, pw_i 99]) (rest := []) (ls'' := [some (pw_i wh), some (pw_i 0), some (pw_i 99)]) (Nat.le_trans (by decide) hd) E rfl (fun _ => pw_iS rfl rfl rfl) (rfl : pm_ent 202 = some (3, 3, 12, 1, pmc_202)) rfl rfl (cm_202 (pw_dp hd (by decide)) h1I (wh) (by omega) (by omega) (0) (by omega) (by omega) (99) (by omega) (by omega)) ?_
            rintro u16 v15 ⟨rfl, x17, rfl, hx17a, hx17b, hx17r⟩
            refine ⟨_, rfl, ?_⟩
            show pw X d h1 203 47 [some (.ref 141), some (pw_i k), some (pw_i mo), some (pw_i wh), some (pw_i hf), some (pw_i 0), none, none] [pw_i x17] _
            change (x17 = 1 ∧ 0 ≤ wh ∧ wh ≤ 99) ∨ (x17 = 0 ∧ ¬ (0 ≤ wh ∧ wh ≤ 99)) at hx17r
            rcases (by omega : x17 = 1 ∨ x17 = 0) with hb18 | hb18
            · skip
              refine pw_if E (pc' := 60) rfl (by decide) (by omega) (by omega) ?_ ?_
              · intro hc19
                change x17 = (0 : Int) at hc19
                exfalso; omega
              · intro hc20
                change ¬ (x17 = (0 : Int)) at hc20
                refine pw_ld E (pc' := 52) (st' := [pw_i hf]) rfl (fun _ => rfl) ?_
                refine pw_ld E (pc' := 53) (st' := [pw_i ((-1)), pw_i hf]) rfl (fun _ => rfl) ?_
                refine pw_if2 E (pc' := 60) rfl (by decide) (by omega) (by omega) (by decide) (by decide) ?_ ?_
                · intro hc21
                  change hf ≠ ((-1) : Int) at hc21
                  refine pw_ld E (pc' := 61) (st' := [pw_i 0]) rfl (fun _ => rfl) ?_
                  refine pw_ist E (pc' := 63) (ls' := [some (.ref 141), some (pw_i k), some (pw_i mo), some (pw_i wh), some (pw_i hf), some (pw_i 0), some (pw_i 0), none]) rfl rfl rfl rfl ?_
                  refine pw_ld E (pc' := 65) (st' := [pw_i 0]) rfl (fun _ => rfl) ?_
                  refine pw_if E (pc' := 96) rfl (by decide) (by decide) (by decide) ?_ ?_
                  · intro hc22
                    change (0 : Int) ≠ (0 : Int) at hc22
                    exfalso; omega
                  · intro hc23
                    change ¬ ((0 : Int) ≠ (0 : Int)) at hc23
                    refine pw_ld E (pc' := 70) (st' := [pw_i 0]) rfl (fun _ => rfl) ?_
                    refine pw_if E (pc' := 96) rfl (by decide) (by decide) (by decide) ?_ ?_
                    · intro hc24
                      change (0 : Int) ≠ (0 : Int) at hc24
                      exfalso; omega
                    · intro hc25
                      change ¬ ((0 : Int) ≠ (0 : Int)) at hc25
                      refine pw_ld E (pc' := 74) (st' := [pw_i wh]) rfl (fun _ => rfl) ?_
                      refine pw_ld E (pc' := 75) (st' := [pw_i 0, pw_i wh]) rfl (fun _ => rfl) ?_
                      refine pw_bip E (pc' := 77) rfl rfl (by decide) ?_
                      refine pw_call (m' := 202) (As := [pw_i wh, pw_i 0, pw_i 99]) (rest := []) (ls'' := [some (pw_i wh), some (pw_i 0), some (pw_i 99)]) (Nat.le_trans (by decide) hd) E rfl (fun _ => pw_iS rfl rfl rfl) (rfl : pm_ent 202 = some (3, 3, 12, 1, pmc_202)) rfl rfl (cm_202 (pw_dp hd (by decide)) h1I (wh) (by omega) (by omega) (0) (by omega) (by omega) (99) (by omega) (by omega)) ?_
                      rintro u27 v26 ⟨rfl, x28, rfl, hx28a, hx28b, hx28r⟩
                      refine ⟨_, rfl, ?_⟩
                      show pw X d h1 203 80 [some (.ref 141), some (pw_i k), some (pw_i mo), some (pw_i wh), some (pw_i hf), some (pw_i 0), some (pw_i 0), none] [pw_i x28] _
                      change (x28 = 1 ∧ 0 ≤ wh ∧ wh ≤ 99) ∨ (x28 = 0 ∧ ¬ (0 ≤ wh ∧ wh ≤ 99)) at hx28r
                      rcases (by omega : x28 = 1 ∨ x28 = 0) with hb29 | hb29
                      · skip
                        refine pw_if E (pc' := 94) rfl (by decide) (by omega) (by omega) ?_ ?_
                        · intro hc30
                          change x28 = (0 : Int) at hc30
                          exfalso; omega
                        · intro hc31
                          change ¬ (x28 = (0 : Int)) at hc31
                          refine pw_ld E (pc' := 85) (st' := [pw_i hf]) rfl (fun _ => rfl) ?_
                          refine pw_ld E (pc' := 86) (st' := [pw_i 0, pw_i hf]) rfl (fun _ => rfl) ?_
                          refine pw_bip E (pc' := 88) rfl rfl (by decide) ?_
                          refine pw_call (m' := 202) (As := [pw_i hf, pw_i 0, pw_i 99]) (rest := []) (ls'' := [some (pw_i hf), some (pw_i 0), some (pw_i 99)]) (Nat.le_trans (by decide) hd) E rfl (fun _ => pw_iS rfl rfl rfl) (rfl : pm_ent 202 = some (3, 3, 12, 1, pmc_202)) rfl rfl (cm_202 (pw_dp hd (by decide)) h1I (hf) (by omega) (by omega) (0) (by omega) (by omega) (99) (by omega) (by omega)) ?_
                          rintro u33 v32 ⟨rfl, x34, rfl, hx34a, hx34b, hx34r⟩
                          refine ⟨_, rfl, ?_⟩
                          show pw X d h1 203 91 [some (.ref 141), some (pw_i k), some (pw_i mo), some (pw_i wh), some (pw_i hf), some (pw_i 0), some (pw_i 0), none] [pw_i x34] _
                          change (x34 = 1 ∧ 0 ≤ hf ∧ hf ≤ 99) ∨ (x34 = 0 ∧ ¬ (0 ≤ hf ∧ hf ≤ 99)) at hx34r
                          rcases (by omega : x34 = 1 ∨ x34 = 0) with hb35 | hb35
                          · skip
                            refine pw_if E (pc' := 96) rfl (by decide) (by omega) (by omega) ?_ ?_
                            · intro hc36
                              change x34 ≠ (0 : Int) at hc36
                              refine pw_bip E (pc' := 98) rfl rfl (by decide) ?_
                              refine pw_ld E (pc' := 99) (st' := [pw_i k, pw_i 12]) rfl (fun _ => rfl) ?_
                              refine pw_mul E (pc' := 100) rfl rfl ?_
                              refine pw_ld E (pc' := 101) (st' := [pw_i mo, pw_i (12 * k)]) rfl (fun _ => rfl) ?_
                              refine pw_add E (pc' := 102) rfl rfl ?_
                              refine pw_ist E (pc' := 104) (ls' := [some (.ref 141), some (pw_i k), some (pw_i mo), some (pw_i wh), some (pw_i hf), some (pw_i 0), some (pw_i 0), some (pw_i ((12 * k) + mo))]) rfl rfl rfl rfl ?_
                              refine pw_ld E (pc' := 105) (st' := [.ref 141]) rfl (fun _ => rfl) ?_
                              refine pw_getR (b := 154) h1I E (c := 125) (k := 18) (pc' := 108) rfl rfl rfl rfl rfl rfl rfl ?_
                              refine pw_ld E (pc' := 110) (st' := [pw_i ((12 * k) + mo), .ref 154]) rfl (fun _ => rfl) ?_
                              refine pw_ld E (pc' := 112) (st' := [pw_i 0, pw_i ((12 * k) + mo), .ref 154]) rfl (fun _ => rfl) ?_
                              refine pw_if E (pc' := 119) rfl (by decide) (by decide) (by decide) ?_ ?_
                              · intro hc37
                                change (0 : Int) = (0 : Int) at hc37
                                refine pw_ld E (pc' := 121) (st' := [pw_i 0, pw_i ((12 * k) + mo), .ref 154]) rfl (fun _ => rfl) ?_
                                refine pw_if E (pc' := 128) rfl (by decide) (by decide) (by decide) ?_ ?_
                                · intro hc38
                                  change (0 : Int) = (0 : Int) at hc38
                                  refine pw_ld E (pc' := 129) (st' := [pw_i 1, pw_i ((12 * k) + mo), .ref 154]) rfl (fun _ => rfl) ?_
                                  refine pw_ast0 h1I E (c := 138) (pc' := 130) rfl rfl rfl (by decide) rfl (by decide) (by omega) (by omega) rfl (by omega) (by omega) (by omega) (by omega) rfl ?_
                                  intro h39I h39E
                                  generalize h39w : pw_w h1 138 (((12 * k) + mo).toNat) (pw_i 1) = h39 at h39I h39E ⊢
                                  have h39F := h1F.tr (h39E.wk (W' := [125, 138, 139, 140]) (by first | rfl | simp))
                                  refine pw_ld E (pc' := 131) (st' := [.ref 141]) rfl (fun _ => rfl) ?_
                                  refine pw_getR (b := 155) h39I E (c := 125) (k := 19) (pc' := 134) rfl rfl rfl rfl rfl rfl rfl ?_
                                  refine pw_ld E (pc' := 136) (st' := [pw_i ((12 * k) + mo), .ref 155]) rfl (fun _ => rfl) ?_
                                  refine pw_ld E (pc' := 138) (st' := [pw_i 0, pw_i ((12 * k) + mo), .ref 155]) rfl (fun _ => rfl) ?_
                                  refine pw_if E (pc' := 146) rfl (by decide) (by decide) (by decide) ?_ ?_
                                  · intro hc40
                                    change (0 : Int) ≠ (0 : Int) at hc40
                                    exfalso; omega
                                  · intro hc41
                                    change ¬ ((0 : Int) ≠ (0 : Int)) at hc41
                                    refine pw_ld E (pc' := 143) (st' := [pw_i 0, pw_i ((12 * k) + mo), .ref 155]) rfl (fun _ => rfl) ?_
                                    refine pw_if E (pc' := 150) rfl (by decide) (by decide) (by decide) ?_ ?_
                                    · intro hc42
                                      change (0 : Int) = (0 : Int) at hc42
                                      refine pw_ld E (pc' := 151) (st' := [pw_i wh, pw_i ((12 * k) + mo), .ref 155]) rfl (fun _ => rfl) ?_
                                      refine pw_ast0 h39I E (c := 139) (pc' := 152) rfl rfl rfl (by decide) rfl (by decide) (by omega) (by omega) rfl (by omega) (by omega) (by omega) (by omega) rfl ?_
                                      intro h43I h43E
                                      generalize h43w : pw_w h39 139 (((12 * k) + mo).toNat) (pw_i wh) = h43 at h43I h43E ⊢
                                      have h43F := h39F.tr (h43E.wk (W' := [125, 138, 139, 140]) (by first | rfl | simp))
                                      refine pw_ld E (pc' := 153) (st' := [.ref 141]) rfl (fun _ => rfl) ?_
                                      refine pw_getR (b := 156) h43I E (c := 125) (k := 20) (pc' := 156) rfl rfl rfl rfl rfl rfl rfl ?_
                                      refine pw_ld E (pc' := 158) (st' := [pw_i ((12 * k) + mo), .ref 156]) rfl (fun _ => rfl) ?_
                                      refine pw_ld E (pc' := 160) (st' := [pw_i 0, pw_i ((12 * k) + mo), .ref 156]) rfl (fun _ => rfl) ?_
                                      refine pw_if E (pc' := 168) rfl (by decide) (by decide) (by decide) ?_ ?_
                                      · intro hc44
                                        change (0 : Int) ≠ (0 : Int) at hc44
                                        exfalso; omega
                                      · intro hc45
                                        change ¬ ((0 : Int) ≠ (0 : Int)) at hc45
                                        refine pw_ld E (pc' := 165) (st' := [pw_i 0, pw_i ((12 * k) + mo), .ref 156]) rfl (fun _ => rfl) ?_
                                        refine pw_if E (pc' := 172) rfl (by decide) (by decide) (by decide) ?_ ?_
                                        · intro hc46
                                          change (0 : Int) = (0 : Int) at hc46
                                          refine pw_ld E (pc' := 174) (st' := [pw_i hf, pw_i ((12 * k) + mo), .ref 156]) rfl (fun _ => rfl) ?_
                                          refine pw_ast0 h43I E (c := 140) (pc' := 175) rfl rfl rfl (by decide) rfl (by decide) (by omega) (by omega) rfl (by omega) (by omega) (by omega) (by omega) rfl ?_
                                          intro h47I h47E
                                          generalize h47w : pw_w h43 140 (((12 * k) + mo).toNat) (pw_i hf) = h47 at h47I h47E ⊢
                                          have h47F := h43F.tr (h47E.wk (W' := [125, 138, 139, 140]) (by first | rfl | simp))
                                          refine pw_ld E (pc' := 176) (st' := [pw_i 1]) rfl (fun _ => rfl) ?_
                                          refine pw_zret E rfl (by omega) ?_
                                          have hl49 : ∀ j : Nat, pw_g h47 138 j = pw_g h39 138 j := fun j => ((by rw [← h47w]; exact pw_g_ne (by omega) : pw_g h47 138 j = pw_g h43 138 j)).trans (by rw [← h43w]; exact pw_g_ne (by omega) : pw_g h43 138 j = pw_g h39 138 j)
                                          have hl50 : ∀ j : Nat, pw_g h1 138 j = pw_g h 138 j := fun j => (by rw [← h1w]; exact pw_g_ne (by omega) : pw_g h1 138 j = pw_g h 138 j)
                                          have hu48a : pw_g h39 138 (((12 * k) + mo).toNat) = 1 := by rw [← h39w]; exact pw_g_eqA h1I rfl (by omega) (by omega) (by omega)
                                          have hu48b : ∀ j : Nat, j ≠ ((12 * k) + mo).toNat → pw_g h39 138 j = pw_g h1 138 j := fun j hj => by rw [← h39w]; exact pw_g_ne (fun q => hj q.2.symm)
                                          have hl52 : ∀ j : Nat, pw_g h47 139 j = pw_g h43 139 j := fun j => (by rw [← h47w]; exact pw_g_ne (by omega) : pw_g h47 139 j = pw_g h43 139 j)
                                          have hl53 : ∀ j : Nat, pw_g h39 139 j = pw_g h 139 j := fun j => ((by rw [← h39w]; exact pw_g_ne (by omega) : pw_g h39 139 j = pw_g h1 139 j)).trans (by rw [← h1w]; exact pw_g_ne (by omega) : pw_g h1 139 j = pw_g h 139 j)
                                          have hu51a : pw_g h43 139 (((12 * k) + mo).toNat) = wh := by rw [← h43w]; exact pw_g_eqA h39I rfl (by omega) (by omega) (by omega)
                                          have hu51b : ∀ j : Nat, j ≠ ((12 * k) + mo).toNat → pw_g h43 139 j = pw_g h39 139 j := fun j hj => by rw [← h43w]; exact pw_g_ne (fun q => hj q.2.symm)
                                          have hl55 : ∀ j : Nat, pw_g h47 140 j = pw_g h47 140 j := fun j => rfl
                                          have hl56 : ∀ j : Nat, pw_g h43 140 j = pw_g h 140 j := fun j => (((by rw [← h43w]; exact pw_g_ne (by omega) : pw_g h43 140 j = pw_g h39 140 j)).trans (by rw [← h39w]; exact pw_g_ne (by omega) : pw_g h39 140 j = pw_g h1 140 j)).trans (by rw [← h1w]; exact pw_g_ne (by omega) : pw_g h1 140 j = pw_g h 140 j)
                                          have hu54a : pw_g h47 140 (((12 * k) + mo).toNat) = hf := by rw [← h47w]; exact pw_g_eqA h43I rfl (by omega) (by omega) (by omega)
                                          have hu54b : ∀ j : Nat, j ≠ ((12 * k) + mo).toNat → pw_g h47 140 j = pw_g h43 140 j := fun j hj => by rw [← h47w]; exact pw_g_ne (fun q => hj q.2.symm)
                                          exact ⟨h47I, h47F, ⟨_, rfl, by omega, by omega, ⟨by omega, fun _ => ⟨_, _, _, (by unfold pw_mv; omega), ⟨(hl49 _).trans hu48a, fun j hj => (hl49 j).trans ((hu48b j hj).trans (hl50 j))⟩, ⟨(hl52 _).trans hu51a, fun j hj => (hl52 j).trans ((hu51b j hj).trans (hl53 j))⟩, ⟨(hl55 _).trans hu54a, fun j hj => (hl55 j).trans ((hu54b j hj).trans (hl56 j))⟩⟩, fun q => absurd q (by omega)⟩⟩⟩
                                        · intro hc57
                                          change ¬ ((0 : Int) = (0 : Int)) at hc57
                                          exfalso; omega
                                    · intro hc58
                                      change ¬ ((0 : Int) = (0 : Int)) at hc58
                                      exfalso; omega
                                · intro hc59
                                  change ¬ ((0 : Int) = (0 : Int)) at hc59
                                  exfalso; omega
                              · intro hc60
                                change ¬ ((0 : Int) = (0 : Int)) at hc60
                                exfalso; omega
                            · intro hc61
                              change ¬ (x34 ≠ (0 : Int)) at hc61
                              exfalso; omega
                          · skip
                            refine pw_if E (pc' := 96) rfl (by decide) (by omega) (by omega) ?_ ?_
                            · intro hc63
                              change x34 ≠ (0 : Int) at hc63
                              exfalso; omega
                            · intro hc64
                              change ¬ (x34 ≠ (0 : Int)) at hc64
                              refine pw_ld E (pc' := 95) (st' := [pw_i 0]) rfl (fun _ => rfl) ?_
                              refine pw_zret E rfl (by omega) ?_
                              have hl65 : ∀ j : Nat, pw_g h1 138 j = pw_g h 138 j := fun j => (by rw [← h1w]; exact pw_g_ne (by omega) : pw_g h1 138 j = pw_g h 138 j)
                              have hl66 : ∀ j : Nat, pw_g h1 139 j = pw_g h 139 j := fun j => (by rw [← h1w]; exact pw_g_ne (by omega) : pw_g h1 139 j = pw_g h 139 j)
                              have hl67 : ∀ j : Nat, pw_g h1 140 j = pw_g h 140 j := fun j => (by rw [← h1w]; exact pw_g_ne (by omega) : pw_g h1 140 j = pw_g h 140 j)
                              exact ⟨h1I, h1F, ⟨_, rfl, by omega, by omega, ⟨by omega, fun q => absurd q (by omega), fun _ => ⟨hl65, hl66, hl67⟩⟩⟩⟩
                      · skip
                        refine pw_if E (pc' := 94) rfl (by decide) (by omega) (by omega) ?_ ?_
                        · intro hc69
                          change x28 = (0 : Int) at hc69
                          refine pw_ld E (pc' := 95) (st' := [pw_i 0]) rfl (fun _ => rfl) ?_
                          refine pw_zret E rfl (by omega) ?_
                          have hl70 : ∀ j : Nat, pw_g h1 138 j = pw_g h 138 j := fun j => (by rw [← h1w]; exact pw_g_ne (by omega) : pw_g h1 138 j = pw_g h 138 j)
                          have hl71 : ∀ j : Nat, pw_g h1 139 j = pw_g h 139 j := fun j => (by rw [← h1w]; exact pw_g_ne (by omega) : pw_g h1 139 j = pw_g h 139 j)
                          have hl72 : ∀ j : Nat, pw_g h1 140 j = pw_g h 140 j := fun j => (by rw [← h1w]; exact pw_g_ne (by omega) : pw_g h1 140 j = pw_g h 140 j)
                          exact ⟨h1I, h1F, ⟨_, rfl, by omega, by omega, ⟨by omega, fun q => absurd q (by omega), fun _ => ⟨hl70, hl71, hl72⟩⟩⟩⟩
                        · intro hc73
                          change ¬ (x28 = (0 : Int)) at hc73
                          exfalso; omega
                · intro hc74
                  change ¬ (hf ≠ ((-1) : Int)) at hc74
                  refine pw_ld E (pc' := 57) (st' := [pw_i 1]) rfl (fun _ => rfl) ?_
                  refine pw_goto E (pc' := 61) rfl (by decide) ?_
                  refine pw_ist E (pc' := 63) (ls' := [some (.ref 141), some (pw_i k), some (pw_i mo), some (pw_i wh), some (pw_i hf), some (pw_i 0), some (pw_i 1), none]) rfl rfl rfl rfl ?_
                  refine pw_ld E (pc' := 65) (st' := [pw_i 0]) rfl (fun _ => rfl) ?_
                  refine pw_if E (pc' := 96) rfl (by decide) (by decide) (by decide) ?_ ?_
                  · intro hc75
                    change (0 : Int) ≠ (0 : Int) at hc75
                    exfalso; omega
                  · intro hc76
                    change ¬ ((0 : Int) ≠ (0 : Int)) at hc76
                    refine pw_ld E (pc' := 70) (st' := [pw_i 1]) rfl (fun _ => rfl) ?_
                    refine pw_if E (pc' := 96) rfl (by decide) (by decide) (by decide) ?_ ?_
                    · intro hc77
                      change (1 : Int) ≠ (0 : Int) at hc77
                      refine pw_bip E (pc' := 98) rfl rfl (by decide) ?_
                      refine pw_ld E (pc' := 99) (st' := [pw_i k, pw_i 12]) rfl (fun _ => rfl) ?_
                      refine pw_mul E (pc' := 100) rfl rfl ?_
                      refine pw_ld E (pc' := 101) (st' := [pw_i mo, pw_i (12 * k)]) rfl (fun _ => rfl) ?_
                      refine pw_add E (pc' := 102) rfl rfl ?_
                      refine pw_ist E (pc' := 104) (ls' := [some (.ref 141), some (pw_i k), some (pw_i mo), some (pw_i wh), some (pw_i hf), some (pw_i 0), some (pw_i 1), some (pw_i ((12 * k) + mo))]) rfl rfl rfl rfl ?_
                      refine pw_ld E (pc' := 105) (st' := [.ref 141]) rfl (fun _ => rfl) ?_
                      refine pw_getR (b := 154) h1I E (c := 125) (k := 18) (pc' := 108) rfl rfl rfl rfl rfl rfl rfl ?_
                      refine pw_ld E (pc' := 110) (st' := [pw_i ((12 * k) + mo), .ref 154]) rfl (fun _ => rfl) ?_
                      refine pw_ld E (pc' := 112) (st' := [pw_i 0, pw_i ((12 * k) + mo), .ref 154]) rfl (fun _ => rfl) ?_
                      refine pw_if E (pc' := 119) rfl (by decide) (by decide) (by decide) ?_ ?_
                      · intro hc78
                        change (0 : Int) = (0 : Int) at hc78
                        refine pw_ld E (pc' := 121) (st' := [pw_i 1, pw_i ((12 * k) + mo), .ref 154]) rfl (fun _ => rfl) ?_
                        refine pw_if E (pc' := 128) rfl (by decide) (by decide) (by decide) ?_ ?_
                        · intro hc79
                          change (1 : Int) = (0 : Int) at hc79
                          exfalso; omega
                        · intro hc80
                          change ¬ ((1 : Int) = (0 : Int)) at hc80
                          refine pw_ld E (pc' := 125) (st' := [pw_i 0, pw_i ((12 * k) + mo), .ref 154]) rfl (fun _ => rfl) ?_
                          refine pw_goto E (pc' := 129) rfl (by decide) ?_
                          refine pw_ast0 h1I E (c := 138) (pc' := 130) rfl rfl rfl (by decide) rfl (by decide) (by omega) (by omega) rfl (by omega) (by omega) (by omega) (by omega) rfl ?_
                          intro h81I h81E
                          generalize h81w : pw_w h1 138 (((12 * k) + mo).toNat) (pw_i 0) = h81 at h81I h81E ⊢
                          have h81F := h1F.tr (h81E.wk (W' := [125, 138, 139, 140]) (by first | rfl | simp))
                          refine pw_ld E (pc' := 131) (st' := [.ref 141]) rfl (fun _ => rfl) ?_
                          refine pw_getR (b := 155) h81I E (c := 125) (k := 19) (pc' := 134) rfl rfl rfl rfl rfl rfl rfl ?_
                          refine pw_ld E (pc' := 136) (st' := [pw_i ((12 * k) + mo), .ref 155]) rfl (fun _ => rfl) ?_
                          refine pw_ld E (pc' := 138) (st' := [pw_i 0, pw_i ((12 * k) + mo), .ref 155]) rfl (fun _ => rfl) ?_
                          refine pw_if E (pc' := 146) rfl (by decide) (by decide) (by decide) ?_ ?_
                          · intro hc82
                            change (0 : Int) ≠ (0 : Int) at hc82
                            exfalso; omega
                          · intro hc83
                            change ¬ ((0 : Int) ≠ (0 : Int)) at hc83
                            refine pw_ld E (pc' := 143) (st' := [pw_i 1, pw_i ((12 * k) + mo), .ref 155]) rfl (fun _ => rfl) ?_
                            refine pw_if E (pc' := 150) rfl (by decide) (by decide) (by decide) ?_ ?_
                            · intro hc84
                              change (1 : Int) = (0 : Int) at hc84
                              exfalso; omega
                            · intro hc85
                              change ¬ ((1 : Int) = (0 : Int)) at hc85
                              refine pw_ld E (pc' := 147) (st' := [pw_i 0, pw_i ((12 * k) + mo), .ref 155]) rfl (fun _ => rfl) ?_
                              refine pw_goto E (pc' := 151) rfl (by decide) ?_
                              refine pw_ast0 h81I E (c := 139) (pc' := 152) rfl rfl rfl (by decide) rfl (by decide) (by omega) (by omega) rfl (by omega) (by omega) (by omega) (by omega) rfl ?_
                              intro h86I h86E
                              generalize h86w : pw_w h81 139 (((12 * k) + mo).toNat) (pw_i 0) = h86 at h86I h86E ⊢
                              have h86F := h81F.tr (h86E.wk (W' := [125, 138, 139, 140]) (by first | rfl | simp))
                              refine pw_ld E (pc' := 153) (st' := [.ref 141]) rfl (fun _ => rfl) ?_
                              refine pw_getR (b := 156) h86I E (c := 125) (k := 20) (pc' := 156) rfl rfl rfl rfl rfl rfl rfl ?_
                              refine pw_ld E (pc' := 158) (st' := [pw_i ((12 * k) + mo), .ref 156]) rfl (fun _ => rfl) ?_
                              refine pw_ld E (pc' := 160) (st' := [pw_i 0, pw_i ((12 * k) + mo), .ref 156]) rfl (fun _ => rfl) ?_
                              refine pw_if E (pc' := 168) rfl (by decide) (by decide) (by decide) ?_ ?_
                              · intro hc87
                                change (0 : Int) ≠ (0 : Int) at hc87
                                exfalso; omega
                              · intro hc88
                                change ¬ ((0 : Int) ≠ (0 : Int)) at hc88
                                refine pw_ld E (pc' := 165) (st' := [pw_i 1, pw_i ((12 * k) + mo), .ref 156]) rfl (fun _ => rfl) ?_
                                refine pw_if E (pc' := 172) rfl (by decide) (by decide) (by decide) ?_ ?_
                                · intro hc89
                                  change (1 : Int) = (0 : Int) at hc89
                                  exfalso; omega
                                · intro hc90
                                  change ¬ ((1 : Int) = (0 : Int)) at hc90
                                  refine pw_ld E (pc' := 169) (st' := [pw_i 0, pw_i ((12 * k) + mo), .ref 156]) rfl (fun _ => rfl) ?_
                                  refine pw_goto E (pc' := 174) rfl (by decide) ?_
                                  refine pw_ast0 h86I E (c := 140) (pc' := 175) rfl rfl rfl (by decide) rfl (by decide) (by omega) (by omega) rfl (by omega) (by omega) (by omega) (by omega) rfl ?_
                                  intro h91I h91E
                                  generalize h91w : pw_w h86 140 (((12 * k) + mo).toNat) (pw_i 0) = h91 at h91I h91E ⊢
                                  have h91F := h86F.tr (h91E.wk (W' := [125, 138, 139, 140]) (by first | rfl | simp))
                                  refine pw_ld E (pc' := 176) (st' := [pw_i 1]) rfl (fun _ => rfl) ?_
                                  refine pw_zret E rfl (by omega) ?_
                                  have hl93 : ∀ j : Nat, pw_g h91 138 j = pw_g h81 138 j := fun j => ((by rw [← h91w]; exact pw_g_ne (by omega) : pw_g h91 138 j = pw_g h86 138 j)).trans (by rw [← h86w]; exact pw_g_ne (by omega) : pw_g h86 138 j = pw_g h81 138 j)
                                  have hl94 : ∀ j : Nat, pw_g h1 138 j = pw_g h 138 j := fun j => (by rw [← h1w]; exact pw_g_ne (by omega) : pw_g h1 138 j = pw_g h 138 j)
                                  have hu92a : pw_g h81 138 (((12 * k) + mo).toNat) = 0 := by rw [← h81w]; exact pw_g_eqA h1I rfl (by omega) (by omega) (by omega)
                                  have hu92b : ∀ j : Nat, j ≠ ((12 * k) + mo).toNat → pw_g h81 138 j = pw_g h1 138 j := fun j hj => by rw [← h81w]; exact pw_g_ne (fun q => hj q.2.symm)
                                  have hl96 : ∀ j : Nat, pw_g h91 139 j = pw_g h86 139 j := fun j => (by rw [← h91w]; exact pw_g_ne (by omega) : pw_g h91 139 j = pw_g h86 139 j)
                                  have hl97 : ∀ j : Nat, pw_g h81 139 j = pw_g h 139 j := fun j => ((by rw [← h81w]; exact pw_g_ne (by omega) : pw_g h81 139 j = pw_g h1 139 j)).trans (by rw [← h1w]; exact pw_g_ne (by omega) : pw_g h1 139 j = pw_g h 139 j)
                                  have hu95a : pw_g h86 139 (((12 * k) + mo).toNat) = 0 := by rw [← h86w]; exact pw_g_eqA h81I rfl (by omega) (by omega) (by omega)
                                  have hu95b : ∀ j : Nat, j ≠ ((12 * k) + mo).toNat → pw_g h86 139 j = pw_g h81 139 j := fun j hj => by rw [← h86w]; exact pw_g_ne (fun q => hj q.2.symm)
                                  have hl99 : ∀ j : Nat, pw_g h91 140 j = pw_g h91 140 j := fun j => rfl
                                  have hl100 : ∀ j : Nat, pw_g h86 140 j = pw_g h 140 j := fun j => (((by rw [← h86w]; exact pw_g_ne (by omega) : pw_g h86 140 j = pw_g h81 140 j)).trans (by rw [← h81w]; exact pw_g_ne (by omega) : pw_g h81 140 j = pw_g h1 140 j)).trans (by rw [← h1w]; exact pw_g_ne (by omega) : pw_g h1 140 j = pw_g h 140 j)
                                  have hu98a : pw_g h91 140 (((12 * k) + mo).toNat) = 0 := by rw [← h91w]; exact pw_g_eqA h86I rfl (by omega) (by omega) (by omega)
                                  have hu98b : ∀ j : Nat, j ≠ ((12 * k) + mo).toNat → pw_g h91 140 j = pw_g h86 140 j := fun j hj => by rw [← h91w]; exact pw_g_ne (fun q => hj q.2.symm)
                                  exact ⟨h91I, h91F, ⟨_, rfl, by omega, by omega, ⟨by omega, fun _ => ⟨_, _, _, (by unfold pw_mv; omega), ⟨(hl93 _).trans hu92a, fun j hj => (hl93 j).trans ((hu92b j hj).trans (hl94 j))⟩, ⟨(hl96 _).trans hu95a, fun j hj => (hl96 j).trans ((hu95b j hj).trans (hl97 j))⟩, ⟨(hl99 _).trans hu98a, fun j hj => (hl99 j).trans ((hu98b j hj).trans (hl100 j))⟩⟩, fun q => absurd q (by omega)⟩⟩⟩
                      · intro hc101
                        change ¬ ((0 : Int) = (0 : Int)) at hc101
                        exfalso; omega
                    · intro hc102
                      change ¬ ((1 : Int) ≠ (0 : Int)) at hc102
                      exfalso; omega
            · skip
              refine pw_if E (pc' := 60) rfl (by decide) (by omega) (by omega) ?_ ?_
              · intro hc104
                change x17 = (0 : Int) at hc104
                refine pw_ld E (pc' := 61) (st' := [pw_i 0]) rfl (fun _ => rfl) ?_
                refine pw_ist E (pc' := 63) (ls' := [some (.ref 141), some (pw_i k), some (pw_i mo), some (pw_i wh), some (pw_i hf), some (pw_i 0), some (pw_i 0), none]) rfl rfl rfl rfl ?_
                refine pw_ld E (pc' := 65) (st' := [pw_i 0]) rfl (fun _ => rfl) ?_
                refine pw_if E (pc' := 96) rfl (by decide) (by decide) (by decide) ?_ ?_
                · intro hc105
                  change (0 : Int) ≠ (0 : Int) at hc105
                  exfalso; omega
                · intro hc106
                  change ¬ ((0 : Int) ≠ (0 : Int)) at hc106
                  refine pw_ld E (pc' := 70) (st' := [pw_i 0]) rfl (fun _ => rfl) ?_
                  refine pw_if E (pc' := 96) rfl (by decide) (by decide) (by decide) ?_ ?_
                  · intro hc107
                    change (0 : Int) ≠ (0 : Int) at hc107
                    exfalso; omega
                  · intro hc108
                    change ¬ ((0 : Int) ≠ (0 : Int)) at hc108
                    refine pw_ld E (pc' := 74) (st' := [pw_i wh]) rfl (fun _ => rfl) ?_
                    refine pw_ld E (pc' := 75) (st' := [pw_i 0, pw_i wh]) rfl (fun _ => rfl) ?_
                    refine pw_bip E (pc' := 77) rfl rfl (by decide) ?_
                    refine pw_call (m' := 202) (As := [pw_i wh, pw_i 0, pw_i 99]) (rest := []) (ls'' := [some (pw_i wh), some (pw_i 0), some (pw_i 99)]) (Nat.le_trans (by decide) hd) E rfl (fun _ => pw_iS rfl rfl rfl) (rfl : pm_ent 202 = some (3, 3, 12, 1, pmc_202)) rfl rfl (cm_202 (pw_dp hd (by decide)) h1I (wh) (by omega) (by omega) (0) (by omega) (by omega) (99) (by omega) (by omega)) ?_
                    rintro u110 v109 ⟨rfl, x111, rfl, hx111a, hx111b, hx111r⟩
                    refine ⟨_, rfl, ?_⟩
                    show pw X d h1 203 80 [some (.ref 141), some (pw_i k), some (pw_i mo), some (pw_i wh), some (pw_i hf), some (pw_i 0), some (pw_i 0), none] [pw_i x111] _
                    change (x111 = 1 ∧ 0 ≤ wh ∧ wh ≤ 99) ∨ (x111 = 0 ∧ ¬ (0 ≤ wh ∧ wh ≤ 99)) at hx111r
                    rcases (by omega : x111 = 1 ∨ x111 = 0) with hb112 | hb112
                    · skip
                      refine pw_if E (pc' := 94) rfl (by decide) (by omega) (by omega) ?_ ?_
                      · intro hc113
                        change x111 = (0 : Int) at hc113
                        exfalso; omega
                      · intro hc114
                        change ¬ (x111 = (0 : Int)) at hc114
                        refine pw_ld E (pc' := 85) (st' := [pw_i hf]) rfl (fun _ => rfl) ?_
                        refine pw_ld E (pc' := 86) (st' := [pw_i 0, pw_i hf]) rfl (fun _ => rfl) ?_
                        refine pw_bip E (pc' := 88) rfl rfl (by decide) ?_
                        refine pw_call (m' := 202) (As := [pw_i hf, pw_i 0, pw_i 99]) (rest := []) (ls'' := [some (pw_i hf), some (pw_i 0), some (pw_i 99)]) (Nat.le_trans (by decide) hd) E rfl (fun _ => pw_iS rfl rfl rfl) (rfl : pm_ent 202 = some (3, 3, 12, 1, pmc_202)) rfl rfl (cm_202 (pw_dp hd (by decide)) h1I (hf) (by omega) (by omega) (0) (by omega) (by omega) (99) (by omega) (by omega)) ?_
                        rintro u116 v115 ⟨rfl, x117, rfl, hx117a, hx117b, hx117r⟩
                        refine ⟨_, rfl, ?_⟩
                        show pw X d h1 203 91 [some (.ref 141), some (pw_i k), some (pw_i mo), some (pw_i wh), some (pw_i hf), some (pw_i 0), some (pw_i 0), none] [pw_i x117] _
                        change (x117 = 1 ∧ 0 ≤ hf ∧ hf ≤ 99) ∨ (x117 = 0 ∧ ¬ (0 ≤ hf ∧ hf ≤ 99)) at hx117r
                        rcases (by omega : x117 = 1 ∨ x117 = 0) with hb118 | hb118
                        · skip
                          refine pw_if E (pc' := 96) rfl (by decide) (by omega) (by omega) ?_ ?_
                          · intro hc119
                            change x117 ≠ (0 : Int) at hc119
                            refine pw_bip E (pc' := 98) rfl rfl (by decide) ?_
                            refine pw_ld E (pc' := 99) (st' := [pw_i k, pw_i 12]) rfl (fun _ => rfl) ?_
                            refine pw_mul E (pc' := 100) rfl rfl ?_
                            refine pw_ld E (pc' := 101) (st' := [pw_i mo, pw_i (12 * k)]) rfl (fun _ => rfl) ?_
                            refine pw_add E (pc' := 102) rfl rfl ?_
                            refine pw_ist E (pc' := 104) (ls' := [some (.ref 141), some (pw_i k), some (pw_i mo), some (pw_i wh), some (pw_i hf), some (pw_i 0), some (pw_i 0), some (pw_i ((12 * k) + mo))]) rfl rfl rfl rfl ?_
                            refine pw_ld E (pc' := 105) (st' := [.ref 141]) rfl (fun _ => rfl) ?_
                            refine pw_getR (b := 154) h1I E (c := 125) (k := 18) (pc' := 108) rfl rfl rfl rfl rfl rfl rfl ?_
                            refine pw_ld E (pc' := 110) (st' := [pw_i ((12 * k) + mo), .ref 154]) rfl (fun _ => rfl) ?_
                            refine pw_ld E (pc' := 112) (st' := [pw_i 0, pw_i ((12 * k) + mo), .ref 154]) rfl (fun _ => rfl) ?_
                            refine pw_if E (pc' := 119) rfl (by decide) (by decide) (by decide) ?_ ?_
                            · intro hc120
                              change (0 : Int) = (0 : Int) at hc120
                              refine pw_ld E (pc' := 121) (st' := [pw_i 0, pw_i ((12 * k) + mo), .ref 154]) rfl (fun _ => rfl) ?_
                              refine pw_if E (pc' := 128) rfl (by decide) (by decide) (by decide) ?_ ?_
                              · intro hc121
                                change (0 : Int) = (0 : Int) at hc121
                                refine pw_ld E (pc' := 129) (st' := [pw_i 1, pw_i ((12 * k) + mo), .ref 154]) rfl (fun _ => rfl) ?_
                                refine pw_ast0 h1I E (c := 138) (pc' := 130) rfl rfl rfl (by decide) rfl (by decide) (by omega) (by omega) rfl (by omega) (by omega) (by omega) (by omega) rfl ?_
                                intro h122I h122E
                                generalize h122w : pw_w h1 138 (((12 * k) + mo).toNat) (pw_i 1) = h122 at h122I h122E ⊢
                                have h122F := h1F.tr (h122E.wk (W' := [125, 138, 139, 140]) (by first | rfl | simp))
                                refine pw_ld E (pc' := 131) (st' := [.ref 141]) rfl (fun _ => rfl) ?_
                                refine pw_getR (b := 155) h122I E (c := 125) (k := 19) (pc' := 134) rfl rfl rfl rfl rfl rfl rfl ?_
                                refine pw_ld E (pc' := 136) (st' := [pw_i ((12 * k) + mo), .ref 155]) rfl (fun _ => rfl) ?_
                                refine pw_ld E (pc' := 138) (st' := [pw_i 0, pw_i ((12 * k) + mo), .ref 155]) rfl (fun _ => rfl) ?_
                                refine pw_if E (pc' := 146) rfl (by decide) (by decide) (by decide) ?_ ?_
                                · intro hc123
                                  change (0 : Int) ≠ (0 : Int) at hc123
                                  exfalso; omega
                                · intro hc124
                                  change ¬ ((0 : Int) ≠ (0 : Int)) at hc124
                                  refine pw_ld E (pc' := 143) (st' := [pw_i 0, pw_i ((12 * k) + mo), .ref 155]) rfl (fun _ => rfl) ?_
                                  refine pw_if E (pc' := 150) rfl (by decide) (by decide) (by decide) ?_ ?_
                                  · intro hc125
                                    change (0 : Int) = (0 : Int) at hc125
                                    refine pw_ld E (pc' := 151) (st' := [pw_i wh, pw_i ((12 * k) + mo), .ref 155]) rfl (fun _ => rfl) ?_
                                    refine pw_ast0 h122I E (c := 139) (pc' := 152) rfl rfl rfl (by decide) rfl (by decide) (by omega) (by omega) rfl (by omega) (by omega) (by omega) (by omega) rfl ?_
                                    intro h126I h126E
                                    generalize h126w : pw_w h122 139 (((12 * k) + mo).toNat) (pw_i wh) = h126 at h126I h126E ⊢
                                    have h126F := h122F.tr (h126E.wk (W' := [125, 138, 139, 140]) (by first | rfl | simp))
                                    refine pw_ld E (pc' := 153) (st' := [.ref 141]) rfl (fun _ => rfl) ?_
                                    refine pw_getR (b := 156) h126I E (c := 125) (k := 20) (pc' := 156) rfl rfl rfl rfl rfl rfl rfl ?_
                                    refine pw_ld E (pc' := 158) (st' := [pw_i ((12 * k) + mo), .ref 156]) rfl (fun _ => rfl) ?_
                                    refine pw_ld E (pc' := 160) (st' := [pw_i 0, pw_i ((12 * k) + mo), .ref 156]) rfl (fun _ => rfl) ?_
                                    refine pw_if E (pc' := 168) rfl (by decide) (by decide) (by decide) ?_ ?_
                                    · intro hc127
                                      change (0 : Int) ≠ (0 : Int) at hc127
                                      exfalso; omega
                                    · intro hc128
                                      change ¬ ((0 : Int) ≠ (0 : Int)) at hc128
                                      refine pw_ld E (pc' := 165) (st' := [pw_i 0, pw_i ((12 * k) + mo), .ref 156]) rfl (fun _ => rfl) ?_
                                      refine pw_if E (pc' := 172) rfl (by decide) (by decide) (by decide) ?_ ?_
                                      · intro hc129
                                        change (0 : Int) = (0 : Int) at hc129
                                        refine pw_ld E (pc' := 174) (st' := [pw_i hf, pw_i ((12 * k) + mo), .ref 156]) rfl (fun _ => rfl) ?_
                                        refine pw_ast0 h126I E (c := 140) (pc' := 175) rfl rfl rfl (by decide) rfl (by decide) (by omega) (by omega) rfl (by omega) (by omega) (by omega) (by omega) rfl ?_
                                        intro h130I h130E
                                        generalize h130w : pw_w h126 140 (((12 * k) + mo).toNat) (pw_i hf) = h130 at h130I h130E ⊢
                                        have h130F := h126F.tr (h130E.wk (W' := [125, 138, 139, 140]) (by first | rfl | simp))
                                        refine pw_ld E (pc' := 176) (st' := [pw_i 1]) rfl (fun _ => rfl) ?_
                                        refine pw_zret E rfl (by omega) ?_
                                        have hl132 : ∀ j : Nat, pw_g h130 138 j = pw_g h122 138 j := fun j => ((by rw [← h130w]; exact pw_g_ne (by omega) : pw_g h130 138 j = pw_g h126 138 j)).trans (by rw [← h126w]; exact pw_g_ne (by omega) : pw_g h126 138 j = pw_g h122 138 j)
                                        have hl133 : ∀ j : Nat, pw_g h1 138 j = pw_g h 138 j := fun j => (by rw [← h1w]; exact pw_g_ne (by omega) : pw_g h1 138 j = pw_g h 138 j)
                                        have hu131a : pw_g h122 138 (((12 * k) + mo).toNat) = 1 := by rw [← h122w]; exact pw_g_eqA h1I rfl (by omega) (by omega) (by omega)
                                        have hu131b : ∀ j : Nat, j ≠ ((12 * k) + mo).toNat → pw_g h122 138 j = pw_g h1 138 j := fun j hj => by rw [← h122w]; exact pw_g_ne (fun q => hj q.2.symm)
                                        have hl135 : ∀ j : Nat, pw_g h130 139 j = pw_g h126 139 j := fun j => (by rw [← h130w]; exact pw_g_ne (by omega) : pw_g h130 139 j = pw_g h126 139 j)
                                        have hl136 : ∀ j : Nat, pw_g h122 139 j = pw_g h 139 j := fun j => ((by rw [← h122w]; exact pw_g_ne (by omega) : pw_g h122 139 j = pw_g h1 139 j)).trans (by rw [← h1w]; exact pw_g_ne (by omega) : pw_g h1 139 j = pw_g h 139 j)
                                        have hu134a : pw_g h126 139 (((12 * k) + mo).toNat) = wh := by rw [← h126w]; exact pw_g_eqA h122I rfl (by omega) (by omega) (by omega)
                                        have hu134b : ∀ j : Nat, j ≠ ((12 * k) + mo).toNat → pw_g h126 139 j = pw_g h122 139 j := fun j hj => by rw [← h126w]; exact pw_g_ne (fun q => hj q.2.symm)
                                        have hl138 : ∀ j : Nat, pw_g h130 140 j = pw_g h130 140 j := fun j => rfl
                                        have hl139 : ∀ j : Nat, pw_g h126 140 j = pw_g h 140 j := fun j => (((by rw [← h126w]; exact pw_g_ne (by omega) : pw_g h126 140 j = pw_g h122 140 j)).trans (by rw [← h122w]; exact pw_g_ne (by omega) : pw_g h122 140 j = pw_g h1 140 j)).trans (by rw [← h1w]; exact pw_g_ne (by omega) : pw_g h1 140 j = pw_g h 140 j)
                                        have hu137a : pw_g h130 140 (((12 * k) + mo).toNat) = hf := by rw [← h130w]; exact pw_g_eqA h126I rfl (by omega) (by omega) (by omega)
                                        have hu137b : ∀ j : Nat, j ≠ ((12 * k) + mo).toNat → pw_g h130 140 j = pw_g h126 140 j := fun j hj => by rw [← h130w]; exact pw_g_ne (fun q => hj q.2.symm)
                                        exact ⟨h130I, h130F, ⟨_, rfl, by omega, by omega, ⟨by omega, fun _ => ⟨_, _, _, (by unfold pw_mv; omega), ⟨(hl132 _).trans hu131a, fun j hj => (hl132 j).trans ((hu131b j hj).trans (hl133 j))⟩, ⟨(hl135 _).trans hu134a, fun j hj => (hl135 j).trans ((hu134b j hj).trans (hl136 j))⟩, ⟨(hl138 _).trans hu137a, fun j hj => (hl138 j).trans ((hu137b j hj).trans (hl139 j))⟩⟩, fun q => absurd q (by omega)⟩⟩⟩
                                      · intro hc140
                                        change ¬ ((0 : Int) = (0 : Int)) at hc140
                                        exfalso; omega
                                  · intro hc141
                                    change ¬ ((0 : Int) = (0 : Int)) at hc141
                                    exfalso; omega
                              · intro hc142
                                change ¬ ((0 : Int) = (0 : Int)) at hc142
                                exfalso; omega
                            · intro hc143
                              change ¬ ((0 : Int) = (0 : Int)) at hc143
                              exfalso; omega
                          · intro hc144
                            change ¬ (x117 ≠ (0 : Int)) at hc144
                            exfalso; omega
                        · skip
                          refine pw_if E (pc' := 96) rfl (by decide) (by omega) (by omega) ?_ ?_
                          · intro hc146
                            change x117 ≠ (0 : Int) at hc146
                            exfalso; omega
                          · intro hc147
                            change ¬ (x117 ≠ (0 : Int)) at hc147
                            refine pw_ld E (pc' := 95) (st' := [pw_i 0]) rfl (fun _ => rfl) ?_
                            refine pw_zret E rfl (by omega) ?_
                            have hl148 : ∀ j : Nat, pw_g h1 138 j = pw_g h 138 j := fun j => (by rw [← h1w]; exact pw_g_ne (by omega) : pw_g h1 138 j = pw_g h 138 j)
                            have hl149 : ∀ j : Nat, pw_g h1 139 j = pw_g h 139 j := fun j => (by rw [← h1w]; exact pw_g_ne (by omega) : pw_g h1 139 j = pw_g h 139 j)
                            have hl150 : ∀ j : Nat, pw_g h1 140 j = pw_g h 140 j := fun j => (by rw [← h1w]; exact pw_g_ne (by omega) : pw_g h1 140 j = pw_g h 140 j)
                            exact ⟨h1I, h1F, ⟨_, rfl, by omega, by omega, ⟨by omega, fun q => absurd q (by omega), fun _ => ⟨hl148, hl149, hl150⟩⟩⟩⟩
                    · skip
                      refine pw_if E (pc' := 94) rfl (by decide) (by omega) (by omega) ?_ ?_
                      · intro hc152
                        change x111 = (0 : Int) at hc152
                        refine pw_ld E (pc' := 95) (st' := [pw_i 0]) rfl (fun _ => rfl) ?_
                        refine pw_zret E rfl (by omega) ?_
                        have hl153 : ∀ j : Nat, pw_g h1 138 j = pw_g h 138 j := fun j => (by rw [← h1w]; exact pw_g_ne (by omega) : pw_g h1 138 j = pw_g h 138 j)
                        have hl154 : ∀ j : Nat, pw_g h1 139 j = pw_g h 139 j := fun j => (by rw [← h1w]; exact pw_g_ne (by omega) : pw_g h1 139 j = pw_g h 139 j)
                        have hl155 : ∀ j : Nat, pw_g h1 140 j = pw_g h 140 j := fun j => (by rw [← h1w]; exact pw_g_ne (by omega) : pw_g h1 140 j = pw_g h 140 j)
                        exact ⟨h1I, h1F, ⟨_, rfl, by omega, by omega, ⟨by omega, fun q => absurd q (by omega), fun _ => ⟨hl153, hl154, hl155⟩⟩⟩⟩
                      · intro hc156
                        change ¬ (x111 = (0 : Int)) at hc156
                        exfalso; omega
              · intro hc157
                change ¬ (x17 = (0 : Int)) at hc157
                exfalso; omega
          · intro hc158
            change ¬ (wh ≠ ((-1) : Int)) at hc158
            refine pw_ld E (pc' := 29) (st' := [pw_i hf]) rfl (fun _ => rfl) ?_
            refine pw_ld E (pc' := 30) (st' := [pw_i ((-1)), pw_i hf]) rfl (fun _ => rfl) ?_
            refine pw_if2 E (pc' := 37) rfl (by decide) (by omega) (by omega) (by decide) (by decide) ?_ ?_
            · intro hc159
              change hf ≠ ((-1) : Int) at hc159
              refine pw_ld E (pc' := 38) (st' := [pw_i 0]) rfl (fun _ => rfl) ?_
              refine pw_ist E (pc' := 40) (ls' := [some (.ref 141), some (pw_i k), some (pw_i mo), some (pw_i wh), some (pw_i hf), some (pw_i 0), none, none]) rfl rfl rfl rfl ?_
              refine pw_ld E (pc' := 41) (st' := [pw_i wh]) rfl (fun _ => rfl) ?_
              refine pw_ld E (pc' := 42) (st' := [pw_i 0, pw_i wh]) rfl (fun _ => rfl) ?_
              refine pw_bip E (pc' := 44) rfl rfl (by decide) ?_
              refine pw_call (m' := 202) (As := [pw_i wh, pw_i 0, pw_i 99]) (rest := []) (ls'' := [some (pw_i wh), some (pw_i 0), some (pw_i 99)]) (Nat.le_trans (by decide) hd) E rfl (fun _ => pw_iS rfl rfl rfl) (rfl : pm_ent 202 = some (3, 3, 12, 1, pmc_202)) rfl rfl (cm_202 (pw_dp hd (by decide)) h1I (wh) (by omega) (by omega) (0) (by omega) (by omega) (99) (by omega) (by omega)) ?_
              rintro u161 v160 ⟨rfl, x162, rfl, hx162a, hx162b, hx162r⟩
              refine ⟨_, rfl, ?_⟩
              show pw X d h1 203 47 [some (.ref 141), some (pw_i k), some (pw_i mo), some (pw_i wh), some (pw_i hf), some (pw_i 0), none, none] [pw_i x162] _
              change (x162 = 1 ∧ 0 ≤ wh ∧ wh ≤ 99) ∨ (x162 = 0 ∧ ¬ (0 ≤ wh ∧ wh ≤ 99)) at hx162r
              rcases (by omega : x162 = 1 ∨ x162 = 0) with hb163 | hb163
              · skip
                refine pw_if E (pc' := 60) rfl (by decide) (by omega) (by omega) ?_ ?_
                · intro hc164
                  change x162 = (0 : Int) at hc164
                  exfalso; omega
                · intro hc165
                  change ¬ (x162 = (0 : Int)) at hc165
                  exfalso; omega
              · skip
                refine pw_if E (pc' := 60) rfl (by decide) (by omega) (by omega) ?_ ?_
                · intro hc167
                  change x162 = (0 : Int) at hc167
                  refine pw_ld E (pc' := 61) (st' := [pw_i 0]) rfl (fun _ => rfl) ?_
                  refine pw_ist E (pc' := 63) (ls' := [some (.ref 141), some (pw_i k), some (pw_i mo), some (pw_i wh), some (pw_i hf), some (pw_i 0), some (pw_i 0), none]) rfl rfl rfl rfl ?_
                  refine pw_ld E (pc' := 65) (st' := [pw_i 0]) rfl (fun _ => rfl) ?_
                  refine pw_if E (pc' := 96) rfl (by decide) (by decide) (by decide) ?_ ?_
                  · intro hc168
                    change (0 : Int) ≠ (0 : Int) at hc168
                    exfalso; omega
                  · intro hc169
                    change ¬ ((0 : Int) ≠ (0 : Int)) at hc169
                    refine pw_ld E (pc' := 70) (st' := [pw_i 0]) rfl (fun _ => rfl) ?_
                    refine pw_if E (pc' := 96) rfl (by decide) (by decide) (by decide) ?_ ?_
                    · intro hc170
                      change (0 : Int) ≠ (0 : Int) at hc170
                      exfalso; omega
                    · intro hc171
                      change ¬ ((0 : Int) ≠ (0 : Int)) at hc171
                      refine pw_ld E (pc' := 74) (st' := [pw_i wh]) rfl (fun _ => rfl) ?_
                      refine pw_ld E (pc' := 75) (st' := [pw_i 0, pw_i wh]) rfl (fun _ => rfl) ?_
                      refine pw_bip E (pc' := 77) rfl rfl (by decide) ?_
                      refine pw_call (m' := 202) (As := [pw_i wh, pw_i 0, pw_i 99]) (rest := []) (ls'' := [some (pw_i wh), some (pw_i 0), some (pw_i 99)]) (Nat.le_trans (by decide) hd) E rfl (fun _ => pw_iS rfl rfl rfl) (rfl : pm_ent 202 = some (3, 3, 12, 1, pmc_202)) rfl rfl (cm_202 (pw_dp hd (by decide)) h1I (wh) (by omega) (by omega) (0) (by omega) (by omega) (99) (by omega) (by omega)) ?_
                      rintro u173 v172 ⟨rfl, x174, rfl, hx174a, hx174b, hx174r⟩
                      refine ⟨_, rfl, ?_⟩
                      show pw X d h1 203 80 [some (.ref 141), some (pw_i k), some (pw_i mo), some (pw_i wh), some (pw_i hf), some (pw_i 0), some (pw_i 0), none] [pw_i x174] _
                      change (x174 = 1 ∧ 0 ≤ wh ∧ wh ≤ 99) ∨ (x174 = 0 ∧ ¬ (0 ≤ wh ∧ wh ≤ 99)) at hx174r
                      rcases (by omega : x174 = 1 ∨ x174 = 0) with hb175 | hb175
                      · skip
                        refine pw_if E (pc' := 94) rfl (by decide) (by omega) (by omega) ?_ ?_
                        · intro hc176
                          change x174 = (0 : Int) at hc176
                          exfalso; omega
                        · intro hc177
                          change ¬ (x174 = (0 : Int)) at hc177
                          exfalso; omega
                      · skip
                        refine pw_if E (pc' := 94) rfl (by decide) (by omega) (by omega) ?_ ?_
                        · intro hc179
                          change x174 = (0 : Int) at hc179
                          refine pw_ld E (pc' := 95) (st' := [pw_i 0]) rfl (fun _ => rfl) ?_
                          refine pw_zret E rfl (by omega) ?_
                          have hl180 : ∀ j : Nat, pw_g h1 138 j = pw_g h 138 j := fun j => (by rw [← h1w]; exact pw_g_ne (by omega) : pw_g h1 138 j = pw_g h 138 j)
                          have hl181 : ∀ j : Nat, pw_g h1 139 j = pw_g h 139 j := fun j => (by rw [← h1w]; exact pw_g_ne (by omega) : pw_g h1 139 j = pw_g h 139 j)
                          have hl182 : ∀ j : Nat, pw_g h1 140 j = pw_g h 140 j := fun j => (by rw [← h1w]; exact pw_g_ne (by omega) : pw_g h1 140 j = pw_g h 140 j)
                          exact ⟨h1I, h1F, ⟨_, rfl, by omega, by omega, ⟨by omega, fun q => absurd q (by omega), fun _ => ⟨hl180, hl181, hl182⟩⟩⟩⟩
                        · intro hc183
                          change ¬ (x174 = (0 : Int)) at hc183
                          exfalso; omega
                · intro hc184
                  change ¬ (x162 = (0 : Int)) at hc184
                  exfalso; omega
            · intro hc185
              change ¬ (hf ≠ ((-1) : Int)) at hc185
              refine pw_ld E (pc' := 34) (st' := [pw_i 1]) rfl (fun _ => rfl) ?_
              refine pw_goto E (pc' := 38) rfl (by decide) ?_
              refine pw_ist E (pc' := 40) (ls' := [some (.ref 141), some (pw_i k), some (pw_i mo), some (pw_i wh), some (pw_i hf), some (pw_i 1), none, none]) rfl rfl rfl rfl ?_
              refine pw_ld E (pc' := 41) (st' := [pw_i wh]) rfl (fun _ => rfl) ?_
              refine pw_ld E (pc' := 42) (st' := [pw_i 0, pw_i wh]) rfl (fun _ => rfl) ?_
              refine pw_bip E (pc' := 44) rfl rfl (by decide) ?_
              refine pw_call (m' := 202) (As := [pw_i wh, pw_i 0, pw_i 99]) (rest := []) (ls'' := [some (pw_i wh), some (pw_i 0), some (pw_i 99)]) (Nat.le_trans (by decide) hd) E rfl (fun _ => pw_iS rfl rfl rfl) (rfl : pm_ent 202 = some (3, 3, 12, 1, pmc_202)) rfl rfl (cm_202 (pw_dp hd (by decide)) h1I (wh) (by omega) (by omega) (0) (by omega) (by omega) (99) (by omega) (by omega)) ?_
              rintro u187 v186 ⟨rfl, x188, rfl, hx188a, hx188b, hx188r⟩
              refine ⟨_, rfl, ?_⟩
              show pw X d h1 203 47 [some (.ref 141), some (pw_i k), some (pw_i mo), some (pw_i wh), some (pw_i hf), some (pw_i 1), none, none] [pw_i x188] _
              change (x188 = 1 ∧ 0 ≤ wh ∧ wh ≤ 99) ∨ (x188 = 0 ∧ ¬ (0 ≤ wh ∧ wh ≤ 99)) at hx188r
              rcases (by omega : x188 = 1 ∨ x188 = 0) with hb189 | hb189
              · skip
                refine pw_if E (pc' := 60) rfl (by decide) (by omega) (by omega) ?_ ?_
                · intro hc190
                  change x188 = (0 : Int) at hc190
                  exfalso; omega
                · intro hc191
                  change ¬ (x188 = (0 : Int)) at hc191
                  exfalso; omega
              · skip
                refine pw_if E (pc' := 60) rfl (by decide) (by omega) (by omega) ?_ ?_
                · intro hc193
                  change x188 = (0 : Int) at hc193
                  refine pw_ld E (pc' := 61) (st' := [pw_i 0]) rfl (fun _ => rfl) ?_
                  refine pw_ist E (pc' := 63) (ls' := [some (.ref 141), some (pw_i k), some (pw_i mo), some (pw_i wh), some (pw_i hf), some (pw_i 1), some (pw_i 0), none]) rfl rfl rfl rfl ?_
                  refine pw_ld E (pc' := 65) (st' := [pw_i 1]) rfl (fun _ => rfl) ?_
                  refine pw_if E (pc' := 96) rfl (by decide) (by decide) (by decide) ?_ ?_
                  · intro hc194
                    change (1 : Int) ≠ (0 : Int) at hc194
                    refine pw_bip E (pc' := 98) rfl rfl (by decide) ?_
                    refine pw_ld E (pc' := 99) (st' := [pw_i k, pw_i 12]) rfl (fun _ => rfl) ?_
                    refine pw_mul E (pc' := 100) rfl rfl ?_
                    refine pw_ld E (pc' := 101) (st' := [pw_i mo, pw_i (12 * k)]) rfl (fun _ => rfl) ?_
                    refine pw_add E (pc' := 102) rfl rfl ?_
                    refine pw_ist E (pc' := 104) (ls' := [some (.ref 141), some (pw_i k), some (pw_i mo), some (pw_i wh), some (pw_i hf), some (pw_i 1), some (pw_i 0), some (pw_i ((12 * k) + mo))]) rfl rfl rfl rfl ?_
                    refine pw_ld E (pc' := 105) (st' := [.ref 141]) rfl (fun _ => rfl) ?_
                    refine pw_getR (b := 154) h1I E (c := 125) (k := 18) (pc' := 108) rfl rfl rfl rfl rfl rfl rfl ?_
                    refine pw_ld E (pc' := 110) (st' := [pw_i ((12 * k) + mo), .ref 154]) rfl (fun _ => rfl) ?_
                    refine pw_ld E (pc' := 112) (st' := [pw_i 1, pw_i ((12 * k) + mo), .ref 154]) rfl (fun _ => rfl) ?_
                    refine pw_if E (pc' := 119) rfl (by decide) (by decide) (by decide) ?_ ?_
                    · intro hc195
                      change (1 : Int) = (0 : Int) at hc195
                      exfalso; omega
                    · intro hc196
                      change ¬ ((1 : Int) = (0 : Int)) at hc196
                      refine pw_ld E (pc' := 116) (st' := [pw_i 2, pw_i ((12 * k) + mo), .ref 154]) rfl (fun _ => rfl) ?_
                      refine pw_goto E (pc' := 129) rfl (by decide) ?_
                      refine pw_ast0 h1I E (c := 138) (pc' := 130) rfl rfl rfl (by decide) rfl (by decide) (by omega) (by omega) rfl (by omega) (by omega) (by omega) (by omega) rfl ?_
                      intro h197I h197E
                      generalize h197w : pw_w h1 138 (((12 * k) + mo).toNat) (pw_i 2) = h197 at h197I h197E ⊢
                      have h197F := h1F.tr (h197E.wk (W' := [125, 138, 139, 140]) (by first | rfl | simp))
                      refine pw_ld E (pc' := 131) (st' := [.ref 141]) rfl (fun _ => rfl) ?_
                      refine pw_getR (b := 155) h197I E (c := 125) (k := 19) (pc' := 134) rfl rfl rfl rfl rfl rfl rfl ?_
                      refine pw_ld E (pc' := 136) (st' := [pw_i ((12 * k) + mo), .ref 155]) rfl (fun _ => rfl) ?_
                      refine pw_ld E (pc' := 138) (st' := [pw_i 1, pw_i ((12 * k) + mo), .ref 155]) rfl (fun _ => rfl) ?_
                      refine pw_if E (pc' := 146) rfl (by decide) (by decide) (by decide) ?_ ?_
                      · intro hc198
                        change (1 : Int) ≠ (0 : Int) at hc198
                        refine pw_ld E (pc' := 147) (st' := [pw_i 0, pw_i ((12 * k) + mo), .ref 155]) rfl (fun _ => rfl) ?_
                        refine pw_goto E (pc' := 151) rfl (by decide) ?_
                        refine pw_ast0 h197I E (c := 139) (pc' := 152) rfl rfl rfl (by decide) rfl (by decide) (by omega) (by omega) rfl (by omega) (by omega) (by omega) (by omega) rfl ?_
                        intro h199I h199E
                        generalize h199w : pw_w h197 139 (((12 * k) + mo).toNat) (pw_i 0) = h199 at h199I h199E ⊢
                        have h199F := h197F.tr (h199E.wk (W' := [125, 138, 139, 140]) (by first | rfl | simp))
                        refine pw_ld E (pc' := 153) (st' := [.ref 141]) rfl (fun _ => rfl) ?_
                        refine pw_getR (b := 156) h199I E (c := 125) (k := 20) (pc' := 156) rfl rfl rfl rfl rfl rfl rfl ?_
                        refine pw_ld E (pc' := 158) (st' := [pw_i ((12 * k) + mo), .ref 156]) rfl (fun _ => rfl) ?_
                        refine pw_ld E (pc' := 160) (st' := [pw_i 1, pw_i ((12 * k) + mo), .ref 156]) rfl (fun _ => rfl) ?_
                        refine pw_if E (pc' := 168) rfl (by decide) (by decide) (by decide) ?_ ?_
                        · intro hc200
                          change (1 : Int) ≠ (0 : Int) at hc200
                          refine pw_ld E (pc' := 169) (st' := [pw_i 0, pw_i ((12 * k) + mo), .ref 156]) rfl (fun _ => rfl) ?_
                          refine pw_goto E (pc' := 174) rfl (by decide) ?_
                          refine pw_ast0 h199I E (c := 140) (pc' := 175) rfl rfl rfl (by decide) rfl (by decide) (by omega) (by omega) rfl (by omega) (by omega) (by omega) (by omega) rfl ?_
                          intro h201I h201E
                          generalize h201w : pw_w h199 140 (((12 * k) + mo).toNat) (pw_i 0) = h201 at h201I h201E ⊢
                          have h201F := h199F.tr (h201E.wk (W' := [125, 138, 139, 140]) (by first | rfl | simp))
                          refine pw_ld E (pc' := 176) (st' := [pw_i 1]) rfl (fun _ => rfl) ?_
                          refine pw_zret E rfl (by omega) ?_
                          have hl203 : ∀ j : Nat, pw_g h201 138 j = pw_g h197 138 j := fun j => ((by rw [← h201w]; exact pw_g_ne (by omega) : pw_g h201 138 j = pw_g h199 138 j)).trans (by rw [← h199w]; exact pw_g_ne (by omega) : pw_g h199 138 j = pw_g h197 138 j)
                          have hl204 : ∀ j : Nat, pw_g h1 138 j = pw_g h 138 j := fun j => (by rw [← h1w]; exact pw_g_ne (by omega) : pw_g h1 138 j = pw_g h 138 j)
                          have hu202a : pw_g h197 138 (((12 * k) + mo).toNat) = 2 := by rw [← h197w]; exact pw_g_eqA h1I rfl (by omega) (by omega) (by omega)
                          have hu202b : ∀ j : Nat, j ≠ ((12 * k) + mo).toNat → pw_g h197 138 j = pw_g h1 138 j := fun j hj => by rw [← h197w]; exact pw_g_ne (fun q => hj q.2.symm)
                          have hl206 : ∀ j : Nat, pw_g h201 139 j = pw_g h199 139 j := fun j => (by rw [← h201w]; exact pw_g_ne (by omega) : pw_g h201 139 j = pw_g h199 139 j)
                          have hl207 : ∀ j : Nat, pw_g h197 139 j = pw_g h 139 j := fun j => ((by rw [← h197w]; exact pw_g_ne (by omega) : pw_g h197 139 j = pw_g h1 139 j)).trans (by rw [← h1w]; exact pw_g_ne (by omega) : pw_g h1 139 j = pw_g h 139 j)
                          have hu205a : pw_g h199 139 (((12 * k) + mo).toNat) = 0 := by rw [← h199w]; exact pw_g_eqA h197I rfl (by omega) (by omega) (by omega)
                          have hu205b : ∀ j : Nat, j ≠ ((12 * k) + mo).toNat → pw_g h199 139 j = pw_g h197 139 j := fun j hj => by rw [← h199w]; exact pw_g_ne (fun q => hj q.2.symm)
                          have hl209 : ∀ j : Nat, pw_g h201 140 j = pw_g h201 140 j := fun j => rfl
                          have hl210 : ∀ j : Nat, pw_g h199 140 j = pw_g h 140 j := fun j => (((by rw [← h199w]; exact pw_g_ne (by omega) : pw_g h199 140 j = pw_g h197 140 j)).trans (by rw [← h197w]; exact pw_g_ne (by omega) : pw_g h197 140 j = pw_g h1 140 j)).trans (by rw [← h1w]; exact pw_g_ne (by omega) : pw_g h1 140 j = pw_g h 140 j)
                          have hu208a : pw_g h201 140 (((12 * k) + mo).toNat) = 0 := by rw [← h201w]; exact pw_g_eqA h199I rfl (by omega) (by omega) (by omega)
                          have hu208b : ∀ j : Nat, j ≠ ((12 * k) + mo).toNat → pw_g h201 140 j = pw_g h199 140 j := fun j hj => by rw [← h201w]; exact pw_g_ne (fun q => hj q.2.symm)
                          exact ⟨h201I, h201F, ⟨_, rfl, by omega, by omega, ⟨by omega, fun _ => ⟨_, _, _, (by unfold pw_mv; omega), ⟨(hl203 _).trans hu202a, fun j hj => (hl203 j).trans ((hu202b j hj).trans (hl204 j))⟩, ⟨(hl206 _).trans hu205a, fun j hj => (hl206 j).trans ((hu205b j hj).trans (hl207 j))⟩, ⟨(hl209 _).trans hu208a, fun j hj => (hl209 j).trans ((hu208b j hj).trans (hl210 j))⟩⟩, fun q => absurd q (by omega)⟩⟩⟩
                        · intro hc211
                          change ¬ ((1 : Int) ≠ (0 : Int)) at hc211
                          exfalso; omega
                      · intro hc212
                        change ¬ ((1 : Int) ≠ (0 : Int)) at hc212
                        exfalso; omega
                  · intro hc213
                    change ¬ ((1 : Int) ≠ (0 : Int)) at hc213
                    exfalso; omega
                · intro hc214
                  change ¬ (x188 = (0 : Int)) at hc214
                  exfalso; omega
        · intro hc215
          change ¬ (x11 ≠ (0 : Int)) at hc215
          exfalso; omega
      · skip
        refine pw_if E (pc' := 22) rfl (by decide) (by omega) (by omega) ?_ ?_
        · intro hc217
          change x11 ≠ (0 : Int) at hc217
          exfalso; omega
        · intro hc218
          change ¬ (x11 ≠ (0 : Int)) at hc218
          refine pw_ld E (pc' := 21) (st' := [pw_i 0]) rfl (fun _ => rfl) ?_
          refine pw_zret E rfl (by omega) ?_
          have hl219 : ∀ j : Nat, pw_g h1 138 j = pw_g h 138 j := fun j => (by rw [← h1w]; exact pw_g_ne (by omega) : pw_g h1 138 j = pw_g h 138 j)
          have hl220 : ∀ j : Nat, pw_g h1 139 j = pw_g h 139 j := fun j => (by rw [← h1w]; exact pw_g_ne (by omega) : pw_g h1 139 j = pw_g h 139 j)
          have hl221 : ∀ j : Nat, pw_g h1 140 j = pw_g h 140 j := fun j => (by rw [← h1w]; exact pw_g_ne (by omega) : pw_g h1 140 j = pw_g h 140 j)
          exact ⟨h1I, h1F, ⟨_, rfl, by omega, by omega, ⟨by omega, fun q => absurd q (by omega), fun _ => ⟨hl219, hl220, hl221⟩⟩⟩⟩
  · skip
    refine pw_if E (pc' := 20) rfl (by decide) (by omega) (by omega) ?_ ?_
    · intro hc223
      change x5 = (0 : Int) at hc223
      refine pw_ld E (pc' := 21) (st' := [pw_i 0]) rfl (fun _ => rfl) ?_
      refine pw_zret E rfl (by omega) ?_
      have hl224 : ∀ j : Nat, pw_g h1 138 j = pw_g h 138 j := fun j => (by rw [← h1w]; exact pw_g_ne (by omega) : pw_g h1 138 j = pw_g h 138 j)
      have hl225 : ∀ j : Nat, pw_g h1 139 j = pw_g h 139 j := fun j => (by rw [← h1w]; exact pw_g_ne (by omega) : pw_g h1 139 j = pw_g h 139 j)
      have hl226 : ∀ j : Nat, pw_g h1 140 j = pw_g h 140 j := fun j => (by rw [← h1w]; exact pw_g_ne (by omega) : pw_g h1 140 j = pw_g h 140 j)
      exact ⟨h1I, h1F, ⟨_, rfl, by omega, by omega, ⟨by omega, fun q => absurd q (by omega), fun _ => ⟨hl224, hl225, hl226⟩⟩⟩⟩
    · intro hc227
      change ¬ (x5 = (0 : Int)) at hc227
      exfalso; omega
set_option maxHeartbeats 4000000 in
theorem cm_206_h {X : List (Nat × List Value)} {d : Nat} {h : pm_H} (hd : 3 ≤ d) (I : pw_I h) (k : Int) (hk1 : (-2147483648) ≤ k) (hk2 : k ≤ 2147483647) (mo : Int) (hmo1 : (-2147483648) ≤ mo) (hmo2 : mo ≤ 2147483647) (wh : Int) (hwh1 : (-2147483648) ≤ wh) (hwh2 : wh ≤ 2147483647) (hf : Int) (hhf1 : (-2147483648) ≤ hf) (hhf2 : hf ≤ 2147483647) : pw X d h 206 0 [some (.ref 141), some (pw_i k), some (pw_i mo), some (pw_i wh), some (pw_i hf), none] [] (fun h' v => pw_I h' ∧ pw_E [125, 141, 142, 143] h h' ∧ ∃ a : Int, v = .inl (some (pw_i a)) ∧ 0 ≤ a ∧ a ≤ 1 ∧ (((a = 1 ∧ 0 ≤ k ∧ k ≤ 23 ∧ pw_g h 131 k.toNat = 1 ∧ 0 ≤ mo ∧ mo ≤ 11 ∧ 0 ≤ wh ∧ wh ≤ 99 ∧ 0 ≤ hf ∧ hf ≤ 99) ∨ (a = 0 ∧ ¬ (0 ≤ k ∧ k ≤ 23 ∧ pw_g h 131 k.toNat = 1 ∧ 0 ≤ mo ∧ mo ≤ 11 ∧ 0 ≤ wh ∧ wh ≤ 99 ∧ 0 ≤ hf ∧ hf ≤ 99))) ∧ (a = 1 → pw_up h h' 141 (12 * k + mo) (1) ∧ pw_up h h' 142 (12 * k + mo) (wh) ∧ pw_up h h' 143 (12 * k + mo) (hf)) ∧ (a = 0 → pw_sm h h' 141 ∧ pw_sm h h' 142 ∧ pw_sm h h' 143))) := by
  have E : pm_ent 206 = some (5, 6, 12, 1, pmc_206) := rfl
  have E0 : pw_E [125, 141, 142, 143] h h := pw_E.rf _ _
  refine pw_ld E (pc' := 1) (st' := [.ref 141]) rfl (fun _ => rfl) ?_
  refine pw_ld E (pc' := 2) (st' := [pw_i 0, .ref 141]) rfl (fun _ => rfl) ?_
  refine pw_putI I E (c := 125) (k := 0) (pc' := 5) rfl rfl rfl rfl (by omega) (by omega) (by omega) (by omega) rfl rfl ?_
  intro h1I h1E
  generalize h1w : pw_w h 125 0 (pw_i 0) = h1 at h1I h1E ⊢
  have h1F := E0.tr (h1E.wk (W' := [125, 141, 142, 143]) (by first | rfl | simp))
  have ht1 : pw_g h1 131 k.toNat = pw_g h 131 k.toNat := by rw [← h1w]; exact pw_g_ne (by omega)
  refine pw_ld E (pc' := 6) (st' := [.ref 141]) rfl (fun _ => rfl) ?_
  refine pw_ld E (pc' := 7) (st' := [pw_i k, .ref 141]) rfl (fun _ => rfl) ?_
  obtain ⟨f2l, f2h, -⟩ := pw_obj (c := 125) h1I rfl
  refine pw_call (m' := 204) (As := [.ref 141, pw_i k]) (rest := []) (ls'' := [some (.ref 141), some (pw_i k)]) (Nat.le_trans (by decide) hd) E rfl (fun _ => pw_iV rfl rfl rfl rfl (pw_cellI f2h rfl)) (rfl : pm_ent 204 = some (2, 2, 12, 1, pmc_204)) rfl rfl (cm_204_t (pw_dp hd (by decide)) h1I (k) (by omega) (by omega)) ?_
  rintro u4 v3 ⟨rfl, x5, rfl, hx5a, hx5b, hx5r⟩
  refine ⟨_, rfl, ?_⟩
  show pw X d h1 206 10 [some (.ref 141), some (pw_i k), some (pw_i mo), some (pw_i wh), some (pw_i hf), none] [pw_i x5] _
  change (x5 = 1 ∧ 0 ≤ k ∧ k ≤ 23 ∧ pw_g h1 131 k.toNat = 1) ∨ (x5 = 0 ∧ ¬ (0 ≤ k ∧ k ≤ 23 ∧ pw_g h1 131 k.toNat = 1)) at hx5r
  rcases (by omega : x5 = 1 ∨ x5 = 0) with hb6 | hb6
  · skip
    refine pw_if E (pc' := 41) rfl (by decide) (by omega) (by omega) ?_ ?_
    · intro hc7
      change x5 = (0 : Int) at hc7
      exfalso; omega
    · intro hc8
      change ¬ (x5 = (0 : Int)) at hc8
      refine pw_ld E (pc' := 14) (st' := [pw_i mo]) rfl (fun _ => rfl) ?_
      refine pw_call (m' := 205) (As := [pw_i mo]) (rest := []) (ls'' := [some (pw_i mo)]) (Nat.le_trans (by decide) hd) E rfl (fun _ => pw_iS rfl rfl rfl) (rfl : pm_ent 205 = some (1, 1, 12, 1, pmc_205)) rfl rfl (cm_205 (pw_dp hd (by decide)) h1I (mo) (by omega) (by omega)) ?_
      rintro u10 v9 ⟨rfl, x11, rfl, hx11a, hx11b, hx11r⟩
      refine ⟨_, rfl, ?_⟩
      show pw X d h1 206 17 [some (.ref 141), some (pw_i k), some (pw_i mo), some (pw_i wh), some (pw_i hf), none] [pw_i x11] _
      change (x11 = 1 ∧ 0 ≤ mo ∧ mo ≤ 11) ∨ (x11 = 0 ∧ ¬ (0 ≤ mo ∧ mo ≤ 11)) at hx11r
      rcases (by omega : x11 = 1 ∨ x11 = 0) with hb12 | hb12
      · skip
        refine pw_if E (pc' := 41) rfl (by decide) (by omega) (by omega) ?_ ?_
        · intro hc13
          change x11 = (0 : Int) at hc13
          exfalso; omega
        · intro hc14
          change ¬ (x11 = (0 : Int)) at hc14
          refine pw_ld E (pc' := 21) (st' := [pw_i wh]) rfl (fun _ => rfl) ?_
          refine pw_ld E (pc' := 22) (st' := [pw_i 0, pw_i wh]) rfl (fun _ => rfl) ?_
          refine pw_bip E (pc' := 24) rfl rfl (by decide) ?_
          refine pw_call (m' := 202) (As := [pw_i wh, pw_i 0, pw_i 99]) (rest := []) (ls'' := [some (pw_i wh), some (pw_i 0), some (pw_i 99)]) (Nat.le_trans (by decide) hd) E rfl (fun _ => pw_iS rfl rfl rfl) (rfl : pm_ent 202 = some (3, 3, 12, 1, pmc_202)) rfl rfl (cm_202 (pw_dp hd (by decide)) h1I (wh) (by omega) (by omega) (0) (by omega) (by omega) (99) (by omega) (by omega)) ?_
          rintro u16 v15 ⟨rfl, x17, rfl, hx17a, hx17b, hx17r⟩
          refine ⟨_, rfl, ?_⟩
          show pw X d h1 206 27 [some (.ref 141), some (pw_i k), some (pw_i mo), some (pw_i wh), some (pw_i hf), none] [pw_i x17] _
          change (x17 = 1 ∧ 0 ≤ wh ∧ wh ≤ 99) ∨ (x17 = 0 ∧ ¬ (0 ≤ wh ∧ wh ≤ 99)) at hx17r
          rcases (by omega : x17 = 1 ∨ x17 = 0) with hb18 | hb18
          · skip
            refine pw_if E (pc' := 41) rfl (by decide) (by omega) (by omega) ?_ ?_
            · intro hc19
              change x17 = (0 : Int) at hc19
              exfalso; omega
            · intro hc20
              change ¬ (x17 = (0 : Int)) at hc20
              refine pw_ld E (pc' := 32) (st' := [pw_i hf]) rfl (fun _ => rfl) ?_
              refine pw_ld E (pc' := 33) (st' := [pw_i 0, pw_i hf]) rfl (fun _ => rfl) ?_
              refine pw_bip E (pc' := 35) rfl rfl (by decide) ?_
              refine pw_call (m' := 202) (As := [pw_i hf, pw_i 0, pw_i 99]) (rest := []) (ls'' := [some (pw_i hf), some (pw_i 0), some (pw_i 99)]) (Nat.le_trans (by decide) hd) E rfl (fun _ => pw_iS rfl rfl rfl) (rfl : pm_ent 202 = some (3, 3, 12, 1, pmc_202)) rfl rfl (cm_202 (pw_dp hd (by decide)) h1I (hf) (by omega) (by omega) (0) (by omega) (by omega) (99) (by omega) (by omega)) ?_
              rintro u22 v21 ⟨rfl, x23, rfl, hx23a, hx23b, hx23r⟩
              refine ⟨_, rfl, ?_⟩
              show pw X d h1 206 38 [some (.ref 141), some (pw_i k), some (pw_i mo), some (pw_i wh), some (pw_i hf), none] [pw_i x23] _
              change (x23 = 1 ∧ 0 ≤ hf ∧ hf ≤ 99) ∨ (x23 = 0 ∧ ¬ (0 ≤ hf ∧ hf ≤ 99)) at hx23r
              rcases (by omega : x23 = 1 ∨ x23 = 0) with hb24 | hb24
              · skip
                refine pw_if E (pc' := 43) rfl (by decide) (by omega) (by omega) ?_ ?_
                · intro hc25
                  change x23 ≠ (0 : Int) at hc25
                  refine pw_bip E (pc' := 45) rfl rfl (by decide) ?_
                  refine pw_ld E (pc' := 46) (st' := [pw_i k, pw_i 12]) rfl (fun _ => rfl) ?_
                  refine pw_mul E (pc' := 47) rfl rfl ?_
                  refine pw_ld E (pc' := 48) (st' := [pw_i mo, pw_i (12 * k)]) rfl (fun _ => rfl) ?_
                  refine pw_add E (pc' := 49) rfl rfl ?_
                  refine pw_ist E (pc' := 51) (ls' := [some (.ref 141), some (pw_i k), some (pw_i mo), some (pw_i wh), some (pw_i hf), some (pw_i ((12 * k) + mo))]) rfl rfl rfl rfl ?_
                  refine pw_ld E (pc' := 52) (st' := [.ref 141]) rfl (fun _ => rfl) ?_
                  refine pw_getR (b := 157) h1I E (c := 125) (k := 21) (pc' := 55) rfl rfl rfl rfl rfl rfl rfl ?_
                  refine pw_ld E (pc' := 57) (st' := [pw_i ((12 * k) + mo), .ref 157]) rfl (fun _ => rfl) ?_
                  refine pw_ld E (pc' := 58) (st' := [pw_i 1, pw_i ((12 * k) + mo), .ref 157]) rfl (fun _ => rfl) ?_
                  refine pw_ast0 h1I E (c := 141) (pc' := 59) rfl rfl rfl (by decide) rfl (by decide) (by omega) (by omega) rfl (by omega) (by omega) (by omega) (by omega) rfl ?_
                  intro h26I h26E
                  generalize h26w : pw_w h1 141 (((12 * k) + mo).toNat) (pw_i 1) = h26 at h26I h26E ⊢
                  have h26F := h1F.tr (h26E.wk (W' := [125, 141, 142, 143]) (by first | rfl | simp))
                  refine pw_ld E (pc' := 60) (st' := [.ref 141]) rfl (fun _ => rfl) ?_
                  refine pw_getR (b := 158) h26I E (c := 125) (k := 22) (pc' := 63) rfl rfl rfl rfl rfl rfl rfl ?_
                  refine pw_ld E (pc' := 65) (st' := [pw_i ((12 * k) + mo), .ref 158]) rfl (fun _ => rfl) ?_
                  refine pw_ld E (pc' := 66) (st' := [pw_i wh, pw_i ((12 * k) + mo), .ref 158]) rfl (fun _ => rfl) ?_
                  refine pw_ast0 h26I E (c := 142) (pc' := 67) rfl rfl rfl (by decide) rfl (by decide) (by omega) (by omega) rfl (by omega) (by omega) (by omega) (by omega) rfl ?_
                  intro h27I h27E
                  generalize h27w : pw_w h26 142 (((12 * k) + mo).toNat) (pw_i wh) = h27 at h27I h27E ⊢
                  have h27F := h26F.tr (h27E.wk (W' := [125, 141, 142, 143]) (by first | rfl | simp))
                  refine pw_ld E (pc' := 68) (st' := [.ref 141]) rfl (fun _ => rfl) ?_
                  refine pw_getR (b := 159) h27I E (c := 125) (k := 23) (pc' := 71) rfl rfl rfl rfl rfl rfl rfl ?_
                  refine pw_ld E (pc' := 73) (st' := [pw_i ((12 * k) + mo), .ref 159]) rfl (fun _ => rfl) ?_
                  refine pw_ld E (pc' := 75) (st' := [pw_i hf, pw_i ((12 * k) + mo), .ref 159]) rfl (fun _ => rfl) ?_
                  refine pw_ast0 h27I E (c := 143) (pc' := 76) rfl rfl rfl (by decide) rfl (by decide) (by omega) (by omega) rfl (by omega) (by omega) (by omega) (by omega) rfl ?_
                  intro h28I h28E
                  generalize h28w : pw_w h27 143 (((12 * k) + mo).toNat) (pw_i hf) = h28 at h28I h28E ⊢
                  have h28F := h27F.tr (h28E.wk (W' := [125, 141, 142, 143]) (by first | rfl | simp))
                  refine pw_ld E (pc' := 77) (st' := [pw_i 1]) rfl (fun _ => rfl) ?_
                  refine pw_zret E rfl (by omega) ?_
                  have hl30 : ∀ j : Nat, pw_g h28 141 j = pw_g h26 141 j := fun j => ((by rw [← h28w]; exact pw_g_ne (by omega) : pw_g h28 141 j = pw_g h27 141 j)).trans (by rw [← h27w]; exact pw_g_ne (by omega) : pw_g h27 141 j = pw_g h26 141 j)
                  have hl31 : ∀ j : Nat, pw_g h1 141 j = pw_g h 141 j := fun j => (by rw [← h1w]; exact pw_g_ne (by omega) : pw_g h1 141 j = pw_g h 141 j)
                  have hu29a : pw_g h26 141 (((12 * k) + mo).toNat) = 1 := by rw [← h26w]; exact pw_g_eqA h1I rfl (by omega) (by omega) (by omega)
                  have hu29b : ∀ j : Nat, j ≠ ((12 * k) + mo).toNat → pw_g h26 141 j = pw_g h1 141 j := fun j hj => by rw [← h26w]; exact pw_g_ne (fun q => hj q.2.symm)
                  have hl33 : ∀ j : Nat, pw_g h28 142 j = pw_g h27 142 j := fun j => (by rw [← h28w]; exact pw_g_ne (by omega) : pw_g h28 142 j = pw_g h27 142 j)
                  have hl34 : ∀ j : Nat, pw_g h26 142 j = pw_g h 142 j := fun j => ((by rw [← h26w]; exact pw_g_ne (by omega) : pw_g h26 142 j = pw_g h1 142 j)).trans (by rw [← h1w]; exact pw_g_ne (by omega) : pw_g h1 142 j = pw_g h 142 j)
                  have hu32a : pw_g h27 142 (((12 * k) + mo).toNat) = wh := by rw [← h27w]; exact pw_g_eqA h26I rfl (by omega) (by omega) (by omega)
                  have hu32b : ∀ j : Nat, j ≠ ((12 * k) + mo).toNat → pw_g h27 142 j = pw_g h26 142 j := fun j hj => by rw [← h27w]; exact pw_g_ne (fun q => hj q.2.symm)
                  have hl36 : ∀ j : Nat, pw_g h28 143 j = pw_g h28 143 j := fun j => rfl
                  have hl37 : ∀ j : Nat, pw_g h27 143 j = pw_g h 143 j := fun j => (((by rw [← h27w]; exact pw_g_ne (by omega) : pw_g h27 143 j = pw_g h26 143 j)).trans (by rw [← h26w]; exact pw_g_ne (by omega) : pw_g h26 143 j = pw_g h1 143 j)).trans (by rw [← h1w]; exact pw_g_ne (by omega) : pw_g h1 143 j = pw_g h 143 j)
                  have hu35a : pw_g h28 143 (((12 * k) + mo).toNat) = hf := by rw [← h28w]; exact pw_g_eqA h27I rfl (by omega) (by omega) (by omega)
                  have hu35b : ∀ j : Nat, j ≠ ((12 * k) + mo).toNat → pw_g h28 143 j = pw_g h27 143 j := fun j hj => by rw [← h28w]; exact pw_g_ne (fun q => hj q.2.symm)
                  exact ⟨h28I, h28F, ⟨_, rfl, by omega, by omega, ⟨by omega, fun _ => ⟨⟨(hl30 _).trans hu29a, fun j hj => (hl30 j).trans ((hu29b j hj).trans (hl31 j))⟩, ⟨(hl33 _).trans hu32a, fun j hj => (hl33 j).trans ((hu32b j hj).trans (hl34 j))⟩, ⟨(hl36 _).trans hu35a, fun j hj => (hl36 j).trans ((hu35b j hj).trans (hl37 j))⟩⟩, fun q => absurd q (by omega)⟩⟩⟩
                · intro hc38
                  change ¬ (x23 ≠ (0 : Int)) at hc38
                  exfalso; omega
              · skip
                refine pw_if E (pc' := 43) rfl (by decide) (by omega) (by omega) ?_ ?_
                · intro hc40
                  change x23 ≠ (0 : Int) at hc40
                  exfalso; omega
                · intro hc41
                  change ¬ (x23 ≠ (0 : Int)) at hc41
                  refine pw_ld E (pc' := 42) (st' := [pw_i 0]) rfl (fun _ => rfl) ?_
                  refine pw_zret E rfl (by omega) ?_
                  have hl42 : ∀ j : Nat, pw_g h1 141 j = pw_g h 141 j := fun j => (by rw [← h1w]; exact pw_g_ne (by omega) : pw_g h1 141 j = pw_g h 141 j)
                  have hl43 : ∀ j : Nat, pw_g h1 142 j = pw_g h 142 j := fun j => (by rw [← h1w]; exact pw_g_ne (by omega) : pw_g h1 142 j = pw_g h 142 j)
                  have hl44 : ∀ j : Nat, pw_g h1 143 j = pw_g h 143 j := fun j => (by rw [← h1w]; exact pw_g_ne (by omega) : pw_g h1 143 j = pw_g h 143 j)
                  exact ⟨h1I, h1F, ⟨_, rfl, by omega, by omega, ⟨by omega, fun q => absurd q (by omega), fun _ => ⟨hl42, hl43, hl44⟩⟩⟩⟩
          · skip
            refine pw_if E (pc' := 41) rfl (by decide) (by omega) (by omega) ?_ ?_
            · intro hc46
              change x17 = (0 : Int) at hc46
              refine pw_ld E (pc' := 42) (st' := [pw_i 0]) rfl (fun _ => rfl) ?_
              refine pw_zret E rfl (by omega) ?_
              have hl47 : ∀ j : Nat, pw_g h1 141 j = pw_g h 141 j := fun j => (by rw [← h1w]; exact pw_g_ne (by omega) : pw_g h1 141 j = pw_g h 141 j)
              have hl48 : ∀ j : Nat, pw_g h1 142 j = pw_g h 142 j := fun j => (by rw [← h1w]; exact pw_g_ne (by omega) : pw_g h1 142 j = pw_g h 142 j)
              have hl49 : ∀ j : Nat, pw_g h1 143 j = pw_g h 143 j := fun j => (by rw [← h1w]; exact pw_g_ne (by omega) : pw_g h1 143 j = pw_g h 143 j)
              exact ⟨h1I, h1F, ⟨_, rfl, by omega, by omega, ⟨by omega, fun q => absurd q (by omega), fun _ => ⟨hl47, hl48, hl49⟩⟩⟩⟩
            · intro hc50
              change ¬ (x17 = (0 : Int)) at hc50
              exfalso; omega
      · skip
        refine pw_if E (pc' := 41) rfl (by decide) (by omega) (by omega) ?_ ?_
        · intro hc52
          change x11 = (0 : Int) at hc52
          refine pw_ld E (pc' := 42) (st' := [pw_i 0]) rfl (fun _ => rfl) ?_
          refine pw_zret E rfl (by omega) ?_
          have hl53 : ∀ j : Nat, pw_g h1 141 j = pw_g h 141 j := fun j => (by rw [← h1w]; exact pw_g_ne (by omega) : pw_g h1 141 j = pw_g h 141 j)
          have hl54 : ∀ j : Nat, pw_g h1 142 j = pw_g h 142 j := fun j => (by rw [← h1w]; exact pw_g_ne (by omega) : pw_g h1 142 j = pw_g h 142 j)
          have hl55 : ∀ j : Nat, pw_g h1 143 j = pw_g h 143 j := fun j => (by rw [← h1w]; exact pw_g_ne (by omega) : pw_g h1 143 j = pw_g h 143 j)
          exact ⟨h1I, h1F, ⟨_, rfl, by omega, by omega, ⟨by omega, fun q => absurd q (by omega), fun _ => ⟨hl53, hl54, hl55⟩⟩⟩⟩
        · intro hc56
          change ¬ (x11 = (0 : Int)) at hc56
          exfalso; omega
  · skip
    refine pw_if E (pc' := 41) rfl (by decide) (by omega) (by omega) ?_ ?_
    · intro hc58
      change x5 = (0 : Int) at hc58
      refine pw_ld E (pc' := 42) (st' := [pw_i 0]) rfl (fun _ => rfl) ?_
      refine pw_zret E rfl (by omega) ?_
      have hl59 : ∀ j : Nat, pw_g h1 141 j = pw_g h 141 j := fun j => (by rw [← h1w]; exact pw_g_ne (by omega) : pw_g h1 141 j = pw_g h 141 j)
      have hl60 : ∀ j : Nat, pw_g h1 142 j = pw_g h 142 j := fun j => (by rw [← h1w]; exact pw_g_ne (by omega) : pw_g h1 142 j = pw_g h 142 j)
      have hl61 : ∀ j : Nat, pw_g h1 143 j = pw_g h 143 j := fun j => (by rw [← h1w]; exact pw_g_ne (by omega) : pw_g h1 143 j = pw_g h 143 j)
      exact ⟨h1I, h1F, ⟨_, rfl, by omega, by omega, ⟨by omega, fun q => absurd q (by omega), fun _ => ⟨hl59, hl60, hl61⟩⟩⟩⟩
    · intro hc62
      change ¬ (x5 = (0 : Int)) at hc62
      exfalso; omega
set_option maxHeartbeats 4000000 in
theorem cm_127_h {X : List (Nat × List Value)} {d : Nat} {h : pm_H} (hd : 2 ≤ d) (I : pw_I h) (n : Int) (hn1 : (-2147483648) ≤ n) (hn2 : n ≤ 2147483647) : pw X d h 127 0 [some (.ref 16), some (pw_i n)] [] (fun h' v => pw_I h' ∧ pw_E [0] h h' ∧ ∃ a : Int, v = .inl (some (pw_i a)) ∧ 0 ≤ a ∧ a ≤ 1 ∧ (((a = 1 ∧ 0 ≤ n ∧ n ≤ 10) ∨ (a = 0 ∧ ¬ (0 ≤ n ∧ n ≤ 10))) ∧ (a = 1 → pw_g h' 0 6 = n) ∧ (a = 0 → pw_g h' 0 6 = pw_g h 0 6))) := by
  have E : pm_ent 127 = some (2, 2, 11, 1, pmc_127) := rfl
  have E0 : pw_E [0] h h := pw_E.rf _ _
  refine pw_ld E (pc' := 1) (st' := [pw_i n]) rfl (fun _ => rfl) ?_
  refine pw_ld E (pc' := 2) (st' := [pw_i 0, pw_i n]) rfl (fun _ => rfl) ?_
  refine pw_bip E (pc' := 4) rfl rfl (by decide) ?_
  refine pw_call (m' := 121) (As := [pw_i n, pw_i 0, pw_i 10]) (rest := []) (ls'' := [some (pw_i n), some (pw_i 0), some (pw_i 10)]) (Nat.le_trans (by decide) hd) E rfl (fun _ => pw_iS rfl rfl rfl) (rfl : pm_ent 121 = some (3, 3, 11, 1, pmc_121)) rfl rfl (cm_121 (pw_dp hd (by decide)) I (n) (by omega) (by omega) (0) (by omega) (by omega) (10) (by omega) (by omega)) ?_
  rintro u2 v1 ⟨rfl, x3, rfl, hx3a, hx3b, hx3r⟩
  refine ⟨_, rfl, ?_⟩
  show pw X d h 127 7 [some (.ref 16), some (pw_i n)] [pw_i x3] _
  change (x3 = 1 ∧ 0 ≤ n ∧ n ≤ 10) ∨ (x3 = 0 ∧ ¬ (0 ≤ n ∧ n ≤ 10)) at hx3r
  rcases (by omega : x3 = 1 ∨ x3 = 0) with hb4 | hb4
  · skip
    refine pw_if E (pc' := 12) rfl (by decide) (by omega) (by omega) ?_ ?_
    · intro hc5
      change x3 ≠ (0 : Int) at hc5
      refine pw_ld E (pc' := 13) (st' := [.ref 16]) rfl (fun _ => rfl) ?_
      refine pw_ld E (pc' := 14) (st' := [pw_i n, .ref 16]) rfl (fun _ => rfl) ?_
      refine pw_putI I E (c := 0) (k := 6) (pc' := 17) rfl rfl rfl rfl (by omega) (by omega) (by omega) (by omega) rfl rfl ?_
      intro h6I h6E
      generalize h6w : pw_w h 0 6 (pw_i n) = h6 at h6I h6E ⊢
      have h6F := E0.tr (h6E.wk (W' := [0]) (by first | rfl | simp))
      refine pw_ld E (pc' := 18) (st' := [pw_i 1]) rfl (fun _ => rfl) ?_
      have he7 : pw_g h6 0 6 = n := by rw [← h6w]; exact pw_g_eq (c := 0) (k := 6) I rfl rfl (by omega) (by omega)
      refine pw_zret E rfl (by omega) ?_
      exact ⟨h6I, h6F, ⟨_, rfl, by omega, by omega, ⟨by omega, fun _ => by omega, fun _ => by omega⟩⟩⟩
    · intro hc8
      change ¬ (x3 ≠ (0 : Int)) at hc8
      exfalso; omega
  · skip
    refine pw_if E (pc' := 12) rfl (by decide) (by omega) (by omega) ?_ ?_
    · intro hc10
      change x3 ≠ (0 : Int) at hc10
      exfalso; omega
    · intro hc11
      change ¬ (x3 ≠ (0 : Int)) at hc11
      refine pw_ld E (pc' := 11) (st' := [pw_i 0]) rfl (fun _ => rfl) ?_
      refine pw_zret E rfl (by omega) ?_
      exact ⟨I, E0, ⟨_, rfl, by omega, by omega, ⟨by omega, fun _ => by omega, fun _ => by omega⟩⟩⟩
set_option maxHeartbeats 4000000 in
theorem cm_207_h {X : List (Nat × List Value)} {d : Nat} {h : pm_H} (hd : 2 ≤ d) (I : pw_I h) (n : Int) (hn1 : (-2147483648) ≤ n) (hn2 : n ≤ 2147483647) : pw X d h 207 0 [some (.ref 141), some (pw_i n)] [] (fun h' v => pw_I h' ∧ pw_E [125, 1015] h h' ∧ ∃ a : Int, v = .inl (some (pw_i a)) ∧ 0 ≤ a ∧ a ≤ 1 ∧ (((a = 1 ∧ 0 ≤ n ∧ n ≤ 10) ∨ (a = 0 ∧ ¬ (0 ≤ n ∧ n ≤ 10))) ∧ (a = 1 → pw_g h' 125 15 = n) ∧ (a = 0 → pw_g h' 125 15 = pw_g h 125 15))) := by
  have E : pm_ent 207 = some (2, 2, 12, 1, pmc_207) := rfl
  have E0 : pw_E [125, 1015] h h := pw_E.rf _ _
  refine pw_ld E (pc' := 1) (st' := [.ref 141]) rfl (fun _ => rfl) ?_
  refine pw_ld E (pc' := 2) (st' := [pw_i 0, .ref 141]) rfl (fun _ => rfl) ?_
  refine pw_putI I E (c := 125) (k := 0) (pc' := 5) rfl rfl rfl rfl (by omega) (by omega) (by omega) (by omega) rfl rfl ?_
  intro h1I h1E
  generalize h1w : pw_w h 125 0 (pw_i 0) = h1 at h1I h1E ⊢
  have h1F := E0.tr (h1E.wk (W' := [125, 1015]) (by first | rfl | simp))
  refine pw_ld E (pc' := 6) (st' := [pw_i n]) rfl (fun _ => rfl) ?_
  refine pw_ld E (pc' := 7) (st' := [pw_i 0, pw_i n]) rfl (fun _ => rfl) ?_
  refine pw_bip E (pc' := 9) rfl rfl (by decide) ?_
  refine pw_call (m' := 202) (As := [pw_i n, pw_i 0, pw_i 10]) (rest := []) (ls'' := [some (pw_i n), some (pw_i 0), some (pw_i 10)]) (Nat.le_trans (by decide) hd) E rfl (fun _ => pw_iS rfl rfl rfl) (rfl : pm_ent 202 = some (3, 3, 12, 1, pmc_202)) rfl rfl (cm_202 (pw_dp hd (by decide)) h1I (n) (by omega) (by omega) (0) (by omega) (by omega) (10) (by omega) (by omega)) ?_
  rintro u3 v2 ⟨rfl, x4, rfl, hx4a, hx4b, hx4r⟩
  refine ⟨_, rfl, ?_⟩
  show pw X d h1 207 12 [some (.ref 141), some (pw_i n)] [pw_i x4] _
  change (x4 = 1 ∧ 0 ≤ n ∧ n ≤ 10) ∨ (x4 = 0 ∧ ¬ (0 ≤ n ∧ n ≤ 10)) at hx4r
  rcases (by omega : x4 = 1 ∨ x4 = 0) with hb5 | hb5
  · skip
    refine pw_if E (pc' := 17) rfl (by decide) (by omega) (by omega) ?_ ?_
    · intro hc6
      change x4 ≠ (0 : Int) at hc6
      refine pw_ld E (pc' := 18) (st' := [.ref 141]) rfl (fun _ => rfl) ?_
      refine pw_ld E (pc' := 19) (st' := [pw_i n, .ref 141]) rfl (fun _ => rfl) ?_
      refine pw_putP h1I E (k := 15) (pc' := 22) rfl rfl rfl rfl (by omega) (by omega) (by omega) (by omega) rfl rfl ?_
      intro h7I h7E
      generalize h7w : pw_w h1 125 15 (pw_i n) = h7 at h7I h7E ⊢
      have h7F := h1F.tr (h7E.wk (W' := [125, 1015]) (by first | rfl | simp))
      refine pw_ld E (pc' := 23) (st' := [pw_i 1]) rfl (fun _ => rfl) ?_
      have he8 : pw_g h7 125 15 = n := by rw [← h7w]; exact pw_g_eq (c := 125) (k := 15) h1I rfl rfl (by omega) (by omega)
      refine pw_zret E rfl (by omega) ?_
      exact ⟨h7I, h7F, ⟨_, rfl, by omega, by omega, ⟨by omega, fun _ => by omega, fun _ => by omega⟩⟩⟩
    · intro hc9
      change ¬ (x4 ≠ (0 : Int)) at hc9
      exfalso; omega
  · skip
    refine pw_if E (pc' := 17) rfl (by decide) (by omega) (by omega) ?_ ?_
    · intro hc11
      change x4 ≠ (0 : Int) at hc11
      exfalso; omega
    · intro hc12
      change ¬ (x4 ≠ (0 : Int)) at hc12
      refine pw_ld E (pc' := 16) (st' := [pw_i 0]) rfl (fun _ => rfl) ?_
      have he13 : pw_g h1 125 15 = pw_g h 125 15 := by rw [← h1w]; exact pw_g_ne (by omega)
      refine pw_zret E rfl (by omega) ?_
      exact ⟨h1I, h1F, ⟨_, rfl, by omega, by omega, ⟨by omega, fun _ => by omega, fun _ => by omega⟩⟩⟩
set_option maxHeartbeats 4000000 in
theorem cm_19_10h {X : List (Nat × List Value)} {d : Nat} {h : pm_H} (hd : 1 ≤ d) (I : pw_I h) (k : Int) (hk1 : 0 ≤ k) (hk2 : k ≤ 23) (mo : Int) (hmo1 : 0 ≤ mo) (hmo2 : mo ≤ 11) : pw X d h 19 0 [some (.ref 26), some (pw_i k), some (pw_i mo)] [] (fun h' v => h = h' ∧ ∃ a : Int, v = .inl (some (pw_i a)) ∧ 0 ≤ a ∧ a ≤ 1 ∧ ((a = 1 ∧ pw_g h 11 (k * 12 + mo).toNat = -2) ∨ (a = 0 ∧ pw_g h 11 (k * 12 + mo).toNat ≠ -2))) := by
  have E : pm_ent 19 = some (3, 3, 2, 1, pmc_19) := rfl
  refine pw_ld E (pc' := 1) (st' := [.ref 26]) rfl (fun _ => rfl) ?_
  refine pw_getR (b := 27) I E (c := 10) (k := 0) (pc' := 4) rfl rfl rfl rfl rfl rfl rfl ?_
  refine pw_ld E (pc' := 5) (st' := [pw_i k, .ref 27]) rfl (fun _ => rfl) ?_
  refine pw_bip E (pc' := 7) rfl rfl (by decide) ?_
  refine pw_mul E (pc' := 8) rfl rfl ?_
  refine pw_ld E (pc' := 9) (st' := [pw_i mo, pw_i (k * 12), .ref 27]) rfl (fun _ => rfl) ?_
  refine pw_add E (pc' := 10) rfl rfl ?_
  refine pw_ald2 I E (c := 11) (pc' := 11) rfl rfl rfl (by decide) rfl (by decide) (by omega) (by omega) rfl (fun hf1a hf1b => ?_)
  refine pw_bip E (pc' := 13) rfl rfl (by decide) ?_
  refine pw_if2 E (pc' := 20) rfl (by decide) (by omega) (by omega) (by decide) (by decide) ?_ ?_
  · intro hc2
    change pw_g h 11 (((k * 12) + mo).toNat) ≠ ((-2) : Int) at hc2
    refine pw_ld E (pc' := 21) (st' := [pw_i 0]) rfl (fun _ => rfl) ?_
    refine pw_zret E rfl (by omega) ?_
    exact ⟨rfl, ⟨_, rfl, by omega, by omega, by omega⟩⟩
  · intro hc3
    change ¬ (pw_g h 11 (((k * 12) + mo).toNat) ≠ ((-2) : Int)) at hc3
    refine pw_ld E (pc' := 17) (st' := [pw_i 1]) rfl (fun _ => rfl) ?_
    refine pw_goto E (pc' := 21) rfl (by decide) ?_
    refine pw_zret E rfl (by omega) ?_
    exact ⟨rfl, ⟨_, rfl, by omega, by omega, by omega⟩⟩
set_option maxHeartbeats 4000000 in
theorem cm_21_10h {X : List (Nat × List Value)} {d : Nat} {h : pm_H} (hd : 1 ≤ d) (I : pw_I h) (k : Int) (hk1 : 0 ≤ k) (hk2 : k ≤ 23) (mo : Int) (hmo1 : 0 ≤ mo) (hmo2 : mo ≤ 11) : pw X d h 21 0 [some (.ref 26), some (pw_i k), some (pw_i mo)] [] (fun h' v => h = h' ∧ ∃ a : Int, v = .inl (some (pw_i a)) ∧ 0 ≤ a ∧ a ≤ 99 ∧ (a = max 0 (pw_g h 11 (k * 12 + mo).toNat) / 100)) := by
  have E : pm_ent 21 = some (3, 3, 2, 0, pmc_21) := rfl
  refine pw_ld E (pc' := 1) (st' := [pw_i 0]) rfl (fun _ => rfl) ?_
  refine pw_ld E (pc' := 2) (st' := [.ref 26, pw_i 0]) rfl (fun _ => rfl) ?_
  refine pw_getR (b := 27) I E (c := 10) (k := 0) (pc' := 5) rfl rfl rfl rfl rfl rfl rfl ?_
  refine pw_ld E (pc' := 6) (st' := [pw_i k, .ref 27, pw_i 0]) rfl (fun _ => rfl) ?_
  refine pw_bip E (pc' := 8) rfl rfl (by decide) ?_
  refine pw_mul E (pc' := 9) rfl rfl ?_
  refine pw_ld E (pc' := 10) (st' := [pw_i mo, pw_i (k * 12), .ref 27, pw_i 0]) rfl (fun _ => rfl) ?_
  refine pw_add E (pc' := 11) rfl rfl ?_
  refine pw_ald2 I E (c := 11) (pc' := 12) rfl rfl rfl (by decide) rfl (by decide) (by omega) (by omega) rfl (fun hf1a hf1b => ?_)
  refine pw_max E rfl rfl (by decide) (by decide) (by omega) (by omega) rfl ?_
  refine pw_bip E (pc' := 17) rfl rfl (by decide) ?_
  refine pw_div E (pc' := 18) rfl rfl (by omega) (by omega) (by decide) (by decide) ?_
  refine pw_iret E rfl ?_
  exact ⟨rfl, ⟨_, rfl, by omega, by omega, by omega⟩⟩
set_option maxHeartbeats 4000000 in
theorem cm_22_10h {X : List (Nat × List Value)} {d : Nat} {h : pm_H} (hd : 1 ≤ d) (I : pw_I h) (k : Int) (hk1 : 0 ≤ k) (hk2 : k ≤ 23) (mo : Int) (hmo1 : 0 ≤ mo) (hmo2 : mo ≤ 11) : pw X d h 22 0 [some (.ref 26), some (pw_i k), some (pw_i mo)] [] (fun h' v => h = h' ∧ ∃ a : Int, v = .inl (some (pw_i a)) ∧ 0 ≤ a ∧ a ≤ 99 ∧ (a = max 0 (pw_g h 11 (k * 12 + mo).toNat) % 100)) := by
  have E : pm_ent 22 = some (3, 3, 2, 0, pmc_22) := rfl
  refine pw_ld E (pc' := 1) (st' := [pw_i 0]) rfl (fun _ => rfl) ?_
  refine pw_ld E (pc' := 2) (st' := [.ref 26, pw_i 0]) rfl (fun _ => rfl) ?_
  refine pw_getR (b := 27) I E (c := 10) (k := 0) (pc' := 5) rfl rfl rfl rfl rfl rfl rfl ?_
  refine pw_ld E (pc' := 6) (st' := [pw_i k, .ref 27, pw_i 0]) rfl (fun _ => rfl) ?_
  refine pw_bip E (pc' := 8) rfl rfl (by decide) ?_
  refine pw_mul E (pc' := 9) rfl rfl ?_
  refine pw_ld E (pc' := 10) (st' := [pw_i mo, pw_i (k * 12), .ref 27, pw_i 0]) rfl (fun _ => rfl) ?_
  refine pw_add E (pc' := 11) rfl rfl ?_
  refine pw_ald2 I E (c := 11) (pc' := 12) rfl rfl rfl (by decide) rfl (by decide) (by omega) (by omega) rfl (fun hf1a hf1b => ?_)
  refine pw_max E rfl rfl (by decide) (by decide) (by omega) (by omega) rfl ?_
  refine pw_bip E (pc' := 17) rfl rfl (by decide) ?_
  refine pw_rem E (pc' := 18) rfl rfl (by omega) (by omega) (by decide) (by decide) ?_
  refine pw_iret E rfl ?_
  exact ⟨rfl, ⟨_, rfl, by omega, by omega, by omega⟩⟩
set_option maxHeartbeats 4000000 in
theorem cm_20_10h {X : List (Nat × List Value)} {d : Nat} {h : pm_H} (hd : 2 ≤ d) (I : pw_I h) (k : Int) (hk1 : 0 ≤ k) (hk2 : k ≤ 23) (mo : Int) (hmo1 : 0 ≤ mo) (hmo2 : mo ≤ 11) (t : Int) (ht1 : 0 ≤ t) (ht2 : t ≤ 10) : pw X d h 20 0 [some (.ref 26), some (pw_i k), some (pw_i mo), some (pw_i t)] [] (fun h' v => h = h' ∧ ∃ a : Int, v = .inl (some (pw_i a)) ∧ 0 ≤ a ∧ a ≤ 2000 ∧ (a = (max 0 (pw_g h 11 (k * 12 + mo).toNat) / 100) * 10 + (max 0 (pw_g h 11 (k * 12 + mo).toNat) % 100) * t)) := by
  have E : pm_ent 20 = some (4, 4, 2, 0, pmc_20) := rfl
  refine pw_ld E (pc' := 1) (st' := [.ref 26]) rfl (fun _ => rfl) ?_
  refine pw_ld E (pc' := 2) (st' := [pw_i k, .ref 26]) rfl (fun _ => rfl) ?_
  refine pw_ld E (pc' := 3) (st' := [pw_i mo, pw_i k, .ref 26]) rfl (fun _ => rfl) ?_
  obtain ⟨f1l, f1h, -⟩ := pw_obj (c := 10) I rfl
  refine pw_call (m' := 21) (As := [.ref 26, pw_i k, pw_i mo]) (rest := []) (ls'' := [some (.ref 26), some (pw_i k), some (pw_i mo)]) (Nat.le_trans (by decide) hd) E rfl (fun _ => pw_iV rfl rfl rfl rfl (pw_cellI f1h rfl)) (rfl : pm_ent 21 = some (3, 3, 2, 0, pmc_21)) rfl rfl (cm_21_10h (pw_dp hd (by decide)) I (k) (by omega) (by omega) (mo) (by omega) (by omega)) ?_
  rintro u3 v2 ⟨rfl, x4, rfl, hx4a, hx4b, hx4r⟩
  refine ⟨_, rfl, ?_⟩
  show pw X d h 20 6 [some (.ref 26), some (pw_i k), some (pw_i mo), some (pw_i t)] [pw_i x4] _
  change x4 = max 0 (pw_g h 11 (k * 12 + mo).toNat) / 100 at hx4r
  refine pw_bip E (pc' := 8) rfl rfl (by decide) ?_
  refine pw_mul E (pc' := 9) rfl rfl ?_
  refine pw_ld E (pc' := 10) (st' := [.ref 26, pw_i (x4 * 10)]) rfl (fun _ => rfl) ?_
  refine pw_ld E (pc' := 11) (st' := [pw_i k, .ref 26, pw_i (x4 * 10)]) rfl (fun _ => rfl) ?_
  refine pw_ld E (pc' := 12) (st' := [pw_i mo, pw_i k, .ref 26, pw_i (x4 * 10)]) rfl (fun _ => rfl) ?_
  obtain ⟨f5l, f5h, -⟩ := pw_obj (c := 10) I rfl
  refine pw_call (m' := 22) (As := [.ref 26, pw_i k, pw_i mo]) (rest := [pw_i (x4 * 10)]) (ls'' := [some (.ref 26), some (pw_i k), some (pw_i mo)]) (Nat.le_trans (by decide) hd) E rfl (fun _ => pw_iV rfl rfl rfl rfl (pw_cellI f5h rfl)) (rfl : pm_ent 22 = some (3, 3, 2, 0, pmc_22)) rfl rfl (cm_22_10h (pw_dp hd (by decide)) I (k) (by omega) (by omega) (mo) (by omega) (by omega)) ?_
  rintro u7 v6 ⟨rfl, x8, rfl, hx8a, hx8b, hx8r⟩
  refine ⟨_, rfl, ?_⟩
  show pw X d h 20 15 [some (.ref 26), some (pw_i k), some (pw_i mo), some (pw_i t)] [pw_i x8, pw_i (x4 * 10)] _
  change x8 = max 0 (pw_g h 11 (k * 12 + mo).toNat) % 100 at hx8r
  refine pw_ld E (pc' := 16) (st' := [pw_i t, pw_i x8, pw_i (x4 * 10)]) rfl (fun _ => rfl) ?_
  have hm9 := pw_mulB (a := x8) (b := t) (A := 99) (B := 10) (by omega) (by omega) (by omega) (by omega)
  refine pw_mul E (pc' := 17) rfl rfl ?_
  refine pw_add E (pc' := 18) rfl rfl ?_
  refine pw_iret E rfl ?_
  exact ⟨rfl, ⟨_, rfl, by omega, by omega, by rw [← hx4r, ← hx8r]⟩⟩
set_option maxHeartbeats 4000000 in
theorem cm_211_h {X : List (Nat × List Value)} {d : Nat} {h : pm_H} (hd : 1 ≤ d) (I : pw_I h) (w : Int) (hw1 : 0 ≤ w) (hw2 : w ≤ 99) (hf : Int) (hhf1 : 0 ≤ hf) (hhf2 : hf ≤ 99) : pw X d h 211 0 [some (.ref 141), some (pw_i w), some (pw_i hf)] [] (fun h' v => h = h' ∧ ∃ a : Int, v = .inl (some (pw_i a)) ∧ 0 ≤ a ∧ a ≤ 2000 ∧ (a = 10 * w + pw_g h 125 15 * hf)) := by
  have E : pm_ent 211 = some (3, 3, 12, 0, pmc_211) := rfl
  refine pw_bip E (pc' := 2) rfl rfl (by decide) ?_
  refine pw_ld E (pc' := 3) (st' := [pw_i w, pw_i 10]) rfl (fun _ => rfl) ?_
  refine pw_mul E (pc' := 4) rfl rfl ?_
  refine pw_ld E (pc' := 5) (st' := [.ref 141, pw_i (10 * w)]) rfl (fun _ => rfl) ?_
  refine pw_getI2 I E (c := 125) (k := 15) (pc' := 8) rfl rfl rfl rfl rfl rfl (fun hf1a hf1b => ?_)
  refine pw_ld E (pc' := 9) (st' := [pw_i hf, pw_i (pw_g h 125 15), pw_i (10 * w)]) rfl (fun _ => rfl) ?_
  have hm2 := pw_mulB (a := pw_g h 125 15) (b := hf) (A := 10) (B := 99) (by omega) (by omega) (by omega) (by omega)
  refine pw_mul E (pc' := 10) rfl rfl ?_
  refine pw_add E (pc' := 11) rfl rfl ?_
  refine pw_iret E rfl ?_
  exact ⟨rfl, ⟨_, rfl, by omega, by omega, rfl⟩⟩
set_option maxHeartbeats 4000000 in
theorem cm_210_h {X : List (Nat × List Value)} {d : Nat} {h : pm_H} (hd : 2 ≤ d) (I : pw_I h) (k : Int) (hk1 : 0 ≤ k) (hk2 : k ≤ 23) (mo : Int) (hmo1 : 0 ≤ mo) (hmo2 : mo ≤ 11) : pw X d h 210 0 [some (.ref 141), some (pw_i k), some (pw_i mo)] [] (fun h' v => h = h' ∧ ∃ a : Int, v = .inl (some (pw_i a)) ∧ 0 ≤ a ∧ a ≤ 2000 ∧ (a = 10 * pw_g h 139 (12 * k + mo).toNat + pw_g h 125 15 * pw_g h 140 (12 * k + mo).toNat)) := by
  have E : pm_ent 210 = some (3, 3, 12, 0, pmc_210) := rfl
  refine pw_ld E (pc' := 1) (st' := [.ref 141]) rfl (fun _ => rfl) ?_
  refine pw_ld E (pc' := 2) (st' := [.ref 141, .ref 141]) rfl (fun _ => rfl) ?_
  refine pw_getR (b := 155) I E (c := 125) (k := 19) (pc' := 5) rfl rfl rfl rfl rfl rfl rfl ?_
  refine pw_bip E (pc' := 7) rfl rfl (by decide) ?_
  refine pw_ld E (pc' := 8) (st' := [pw_i k, pw_i 12, .ref 155, .ref 141]) rfl (fun _ => rfl) ?_
  refine pw_mul E (pc' := 9) rfl rfl ?_
  refine pw_ld E (pc' := 10) (st' := [pw_i mo, pw_i (12 * k), .ref 155, .ref 141]) rfl (fun _ => rfl) ?_
  refine pw_add E (pc' := 11) rfl rfl ?_
  refine pw_ald2 I E (c := 139) (pc' := 12) rfl rfl rfl (by decide) rfl (by decide) (by omega) (by omega) rfl (fun hf1a hf1b => ?_)
  refine pw_ld E (pc' := 13) (st' := [.ref 141, pw_i (pw_g h 139 (((12 * k) + mo).toNat)), .ref 141]) rfl (fun _ => rfl) ?_
  refine pw_getR (b := 156) I E (c := 125) (k := 20) (pc' := 16) rfl rfl rfl rfl rfl rfl rfl ?_
  refine pw_bip E (pc' := 18) rfl rfl (by decide) ?_
  refine pw_ld E (pc' := 19) (st' := [pw_i k, pw_i 12, .ref 156, pw_i (pw_g h 139 (((12 * k) + mo).toNat)), .ref 141]) rfl (fun _ => rfl) ?_
  refine pw_mul E (pc' := 20) rfl rfl ?_
  refine pw_ld E (pc' := 21) (st' := [pw_i mo, pw_i (12 * k), .ref 156, pw_i (pw_g h 139 (((12 * k) + mo).toNat)), .ref 141]) rfl (fun _ => rfl) ?_
  refine pw_add E (pc' := 22) rfl rfl ?_
  refine pw_ald2 I E (c := 140) (pc' := 23) rfl rfl rfl (by decide) rfl (by decide) (by omega) (by omega) rfl (fun hf2a hf2b => ?_)
  obtain ⟨f3l, f3h, -⟩ := pw_obj (c := 125) I rfl
  refine pw_call (m' := 211) (As := [.ref 141, pw_i (pw_g h 139 (((12 * k) + mo).toNat)), pw_i (pw_g h 140 (((12 * k) + mo).toNat))]) (rest := []) (ls'' := [some (.ref 141), some (pw_i (pw_g h 139 (((12 * k) + mo).toNat))), some (pw_i (pw_g h 140 (((12 * k) + mo).toNat)))]) (Nat.le_trans (by decide) hd) E rfl (fun _ => pw_iV rfl rfl rfl rfl (pw_cellI f3h rfl)) (rfl : pm_ent 211 = some (3, 3, 12, 0, pmc_211)) rfl rfl (cm_211_h (pw_dp hd (by decide)) I (pw_g h 139 (((12 * k) + mo).toNat)) (by omega) (by omega) (pw_g h 140 (((12 * k) + mo).toNat)) (by omega) (by omega)) ?_
  rintro u5 v4 ⟨rfl, x6, rfl, hx6a, hx6b, hx6r⟩
  refine ⟨_, rfl, ?_⟩
  show pw X d h 210 26 [some (.ref 141), some (pw_i k), some (pw_i mo)] [pw_i x6] _
  change x6 = 10 * (pw_g h 139 (((12 * k) + mo).toNat)) + pw_g h 125 15 * (pw_g h 140 (((12 * k) + mo).toNat)) at hx6r
  refine pw_iret E rfl ?_
  exact ⟨rfl, ⟨_, rfl, by omega, by omega, hx6r⟩⟩
end
