/-! contracts (printed by wip/tool/pwspec.py) -/
set_option maxHeartbeats 4000000 in
theorem cm_202 {X : List (Nat × List Value)} {d : Nat} {h : pm_H} (hd : 1 ≤ d) (I : pw_I h) (n : Int) (hn1 : (-2147483648) ≤ n) (hn2 : n ≤ 2147483647) (lo : Int) (hlo1 : (-2147483648) ≤ lo) (hlo2 : lo ≤ 2147483647) (hi : Int) (hhi1 : (-2147483648) ≤ hi) (hhi2 : hi ≤ 2147483647) : pw X d h 202 0 [some (pw_i n), some (pw_i lo), some (pw_i hi)] [] (fun h' v => h = h' ∧ ∃ a : Int, v = .inl (some (pw_i a)) ∧ 0 ≤ a ∧ a ≤ 1 ∧ ((a = 1 ∧ lo ≤ n ∧ n ≤ hi) ∨ (a = 0 ∧ ¬ (lo ≤ n ∧ n ≤ hi)))) := by
  have E : pm_ent 202 = some (3, 3, 12, 1, pmc_202) := rfl
  refine pw_ld E (pc' := 1) (st' := [pw_i n]) rfl (fun _ => rfl) ?_
  refine pw_ld E (pc' := 2) (st' := [pw_i lo, pw_i n]) rfl (fun _ => rfl) ?_
  refine pw_if2 E (pc' := 14) rfl (by decide) (by omega) (by omega) (by omega) (by omega) ?_ ?_
  · intro hc1
    change n < lo at hc1
    refine pw_ld E (pc' := 15) (st' := [pw_i 0]) rfl (fun _ => rfl) ?_
    refine pw_zret E rfl (by omega) ?_
    exact ⟨rfl, ⟨_, rfl, by omega, by omega, by omega⟩⟩
  · intro hc2
    change ¬ (n < lo) at hc2
    refine pw_ld E (pc' := 6) (st' := [pw_i n]) rfl (fun _ => rfl) ?_
    refine pw_ld E (pc' := 7) (st' := [pw_i hi, pw_i n]) rfl (fun _ => rfl) ?_
    refine pw_if2 E (pc' := 14) rfl (by decide) (by omega) (by omega) (by omega) (by omega) ?_ ?_
    · intro hc3
      change hi < n at hc3
      refine pw_ld E (pc' := 15) (st' := [pw_i 0]) rfl (fun _ => rfl) ?_
      refine pw_zret E rfl (by omega) ?_
      exact ⟨rfl, ⟨_, rfl, by omega, by omega, by omega⟩⟩
    · intro hc4
      change ¬ (hi < n) at hc4
      refine pw_ld E (pc' := 11) (st' := [pw_i 1]) rfl (fun _ => rfl) ?_
      refine pw_goto E (pc' := 15) rfl (by decide) ?_
      refine pw_zret E rfl (by omega) ?_
      exact ⟨rfl, ⟨_, rfl, by omega, by omega, by omega⟩⟩
set_option maxHeartbeats 4000000 in
theorem cm_205 {X : List (Nat × List Value)} {d : Nat} {h : pm_H} (hd : 2 ≤ d) (I : pw_I h) (n : Int) (hn1 : (-2147483648) ≤ n) (hn2 : n ≤ 2147483647) : pw X d h 205 0 [some (pw_i n)] [] (fun h' v => h = h' ∧ ∃ a : Int, v = .inl (some (pw_i a)) ∧ 0 ≤ a ∧ a ≤ 1 ∧ ((a = 1 ∧ 0 ≤ n ∧ n ≤ 11) ∨ (a = 0 ∧ ¬ (0 ≤ n ∧ n ≤ 11)))) := by
  have E : pm_ent 205 = some (1, 1, 12, 1, pmc_205) := rfl
  refine pw_ld E (pc' := 1) (st' := [pw_i n]) rfl (fun _ => rfl) ?_
  refine pw_ld E (pc' := 2) (st' := [pw_i 0, pw_i n]) rfl (fun _ => rfl) ?_
  refine pw_bip E (pc' := 4) rfl rfl (by decide) ?_
  refine pw_call (m' := 202) (As := [pw_i n, pw_i 0, pw_i 11]) (rest := []) (ls'' := [some (pw_i n), some (pw_i 0), some (pw_i 11)]) (Nat.le_trans (by decide) hd) E rfl (fun _ => pw_iS rfl rfl rfl) (rfl : pm_ent 202 = some (3, 3, 12, 1, pmc_202)) rfl rfl (cm_202 (pw_dp hd (by decide)) I (n) (by omega) (by omega) (0) (by omega) (by omega) (11) (by omega) (by omega)) ?_
  rintro u2 v1 ⟨rfl, x3, rfl, hx3a, hx3b, hx3r⟩
  refine ⟨_, rfl, ?_⟩
  show pw X d h 205 7 [some (pw_i n)] [pw_i x3] _
  change (x3 = 1 ∧ 0 ≤ n ∧ n ≤ 11) ∨ (x3 = 0 ∧ ¬ (0 ≤ n ∧ n ≤ 11)) at hx3r
  refine pw_zret E rfl (by omega) ?_
  exact ⟨rfl, ⟨_, rfl, by omega, by omega, by omega⟩⟩
set_option maxHeartbeats 4000000 in
theorem cm_217 {X : List (Nat × List Value)} {d : Nat} {h : pm_H} (hd : 2 ≤ d) (I : pw_I h) (n : Int) (hn1 : (-2147483648) ≤ n) (hn2 : n ≤ 2147483647) : pw X d h 217 0 [some (pw_i n)] [] (fun h' v => h = h' ∧ ∃ a : Int, v = .inl (some (pw_i a)) ∧ 0 ≤ a ∧ a ≤ 1 ∧ ((a = 1 ∧ 0 ≤ n ∧ n ≤ 1) ∨ (a = 0 ∧ ¬ (0 ≤ n ∧ n ≤ 1)))) := by
  have E : pm_ent 217 = some (1, 1, 12, 1, pmc_217) := rfl
  refine pw_ld E (pc' := 1) (st' := [pw_i n]) rfl (fun _ => rfl) ?_
  refine pw_ld E (pc' := 2) (st' := [pw_i 0, pw_i n]) rfl (fun _ => rfl) ?_
  refine pw_ld E (pc' := 3) (st' := [pw_i 1, pw_i 0, pw_i n]) rfl (fun _ => rfl) ?_
  refine pw_call (m' := 202) (As := [pw_i n, pw_i 0, pw_i 1]) (rest := []) (ls'' := [some (pw_i n), some (pw_i 0), some (pw_i 1)]) (Nat.le_trans (by decide) hd) E rfl (fun _ => pw_iS rfl rfl rfl) (rfl : pm_ent 202 = some (3, 3, 12, 1, pmc_202)) rfl rfl (cm_202 (pw_dp hd (by decide)) I (n) (by omega) (by omega) (0) (by omega) (by omega) (1) (by omega) (by omega)) ?_
  rintro u2 v1 ⟨rfl, x3, rfl, hx3a, hx3b, hx3r⟩
  refine ⟨_, rfl, ?_⟩
  show pw X d h 217 6 [some (pw_i n)] [pw_i x3] _
  change (x3 = 1 ∧ 0 ≤ n ∧ n ≤ 1) ∨ (x3 = 0 ∧ ¬ (0 ≤ n ∧ n ≤ 1)) at hx3r
  refine pw_zret E rfl (by omega) ?_
  exact ⟨rfl, ⟨_, rfl, by omega, by omega, by omega⟩⟩
set_option maxHeartbeats 4000000 in
theorem cm_269 {X : List (Nat × List Value)} {d : Nat} {h : pm_H} (hd : 2 ≤ d) (I : pw_I h) (n : Int) (hn1 : (-2147483648) ≤ n) (hn2 : n ≤ 2147483647) : pw X d h 269 0 [some (pw_i n)] [] (fun h' v => h = h' ∧ ∃ a : Int, v = .inl (some (pw_i a)) ∧ 0 ≤ a ∧ a ≤ 1 ∧ ((a = 1 ∧ 1 ≤ n ∧ n ≤ 20) ∨ (a = 0 ∧ ¬ (1 ≤ n ∧ n ≤ 20)))) := by
  have E : pm_ent 269 = some (1, 1, 12, 1, pmc_269) := rfl
  refine pw_ld E (pc' := 1) (st' := [pw_i n]) rfl (fun _ => rfl) ?_
  refine pw_ld E (pc' := 2) (st' := [pw_i 1, pw_i n]) rfl (fun _ => rfl) ?_
  refine pw_bip E (pc' := 4) rfl rfl (by decide) ?_
  refine pw_call (m' := 202) (As := [pw_i n, pw_i 1, pw_i 20]) (rest := []) (ls'' := [some (pw_i n), some (pw_i 1), some (pw_i 20)]) (Nat.le_trans (by decide) hd) E rfl (fun _ => pw_iS rfl rfl rfl) (rfl : pm_ent 202 = some (3, 3, 12, 1, pmc_202)) rfl rfl (cm_202 (pw_dp hd (by decide)) I (n) (by omega) (by omega) (1) (by omega) (by omega) (20) (by omega) (by omega)) ?_
  rintro u2 v1 ⟨rfl, x3, rfl, hx3a, hx3b, hx3r⟩
  refine ⟨_, rfl, ?_⟩
  show pw X d h 269 7 [some (pw_i n)] [pw_i x3] _
  change (x3 = 1 ∧ 1 ≤ n ∧ n ≤ 20) ∨ (x3 = 0 ∧ ¬ (1 ≤ n ∧ n ≤ 20)) at hx3r
  refine pw_zret E rfl (by omega) ?_
  exact ⟨rfl, ⟨_, rfl, by omega, by omega, by omega⟩⟩
set_option maxHeartbeats 4000000 in
theorem cm_278 {X : List (Nat × List Value)} {d : Nat} {h : pm_H} (hd : 2 ≤ d) (I : pw_I h) (n : Int) (hn1 : (-2147483648) ≤ n) (hn2 : n ≤ 2147483647) : pw X d h 278 0 [some (pw_i n)] [] (fun h' v => h = h' ∧ ∃ a : Int, v = .inl (some (pw_i a)) ∧ 0 ≤ a ∧ a ≤ 1 ∧ ((a = 1 ∧ 0 ≤ n ∧ n ≤ 3) ∨ (a = 0 ∧ ¬ (0 ≤ n ∧ n ≤ 3)))) := by
  have E : pm_ent 278 = some (1, 1, 12, 1, pmc_278) := rfl
  refine pw_ld E (pc' := 1) (st' := [pw_i n]) rfl (fun _ => rfl) ?_
  refine pw_ld E (pc' := 2) (st' := [pw_i 0, pw_i n]) rfl (fun _ => rfl) ?_
  refine pw_ld E (pc' := 3) (st' := [pw_i 3, pw_i 0, pw_i n]) rfl (fun _ => rfl) ?_
  refine pw_call (m' := 202) (As := [pw_i n, pw_i 0, pw_i 3]) (rest := []) (ls'' := [some (pw_i n), some (pw_i 0), some (pw_i 3)]) (Nat.le_trans (by decide) hd) E rfl (fun _ => pw_iS rfl rfl rfl) (rfl : pm_ent 202 = some (3, 3, 12, 1, pmc_202)) rfl rfl (cm_202 (pw_dp hd (by decide)) I (n) (by omega) (by omega) (0) (by omega) (by omega) (3) (by omega) (by omega)) ?_
  rintro u2 v1 ⟨rfl, x3, rfl, hx3a, hx3b, hx3r⟩
  refine ⟨_, rfl, ?_⟩
  show pw X d h 278 6 [some (pw_i n)] [pw_i x3] _
  change (x3 = 1 ∧ 0 ≤ n ∧ n ≤ 3) ∨ (x3 = 0 ∧ ¬ (0 ≤ n ∧ n ≤ 3)) at hx3r
  refine pw_zret E rfl (by omega) ?_
  exact ⟨rfl, ⟨_, rfl, by omega, by omega, by omega⟩⟩
set_option maxHeartbeats 4000000 in
theorem cm_204 {X : List (Nat × List Value)} {d : Nat} {h : pm_H} (hd : 2 ≤ d) (I : pw_I h) (k : Int) (hk1 : (-2147483648) ≤ k) (hk2 : k ≤ 2147483647) : pw X d h 204 0 [some (.ref 141), some (pw_i k)] [] (fun h' v => h = h' ∧ ∃ a : Int, v = .inl (some (pw_i a)) ∧ 0 ≤ a ∧ a ≤ 1 ∧ ((a = 1 ∧ 0 ≤ k ∧ k ≤ 23) ∨ a = 0)) := by
  have E : pm_ent 204 = some (2, 2, 12, 1, pmc_204) := rfl
  refine pw_ld E (pc' := 1) (st' := [pw_i k]) rfl (fun _ => rfl) ?_
  refine pw_ld E (pc' := 2) (st' := [pw_i 0, pw_i k]) rfl (fun _ => rfl) ?_
  refine pw_bip E (pc' := 4) rfl rfl (by decide) ?_
  refine pw_call (m' := 202) (As := [pw_i k, pw_i 0, pw_i 23]) (rest := []) (ls'' := [some (pw_i k), some (pw_i 0), some (pw_i 23)]) (Nat.le_trans (by decide) hd) E rfl (fun _ => pw_iS rfl rfl rfl) (rfl : pm_ent 202 = some (3, 3, 12, 1, pmc_202)) rfl rfl (cm_202 (pw_dp hd (by decide)) I (k) (by omega) (by omega) (0) (by omega) (by omega) (23) (by omega) (by omega)) ?_
  rintro u2 v1 ⟨rfl, x3, rfl, hx3a, hx3b, hx3r⟩
  refine ⟨_, rfl, ?_⟩
  show pw X d h 204 7 [some (.ref 141), some (pw_i k)] [pw_i x3] _
  change (x3 = 1 ∧ 0 ≤ k ∧ k ≤ 23) ∨ (x3 = 0 ∧ ¬ (0 ≤ k ∧ k ≤ 23)) at hx3r
  rcases (by omega : x3 = 1 ∨ x3 = 0) with hb4 | hb4
  · skip
    refine pw_if E (pc' := 23) rfl (by decide) (by omega) (by omega) ?_ ?_
    · intro hc5
      change x3 = (0 : Int) at hc5
      exfalso; omega
    · intro hc6
      change ¬ (x3 = (0 : Int)) at hc6
      refine pw_ld E (pc' := 11) (st' := [.ref 141]) rfl (fun _ => rfl) ?_
      refine pw_getR (b := 147) I E (c := 125) (k := 10) (pc' := 14) rfl rfl rfl rfl rfl rfl rfl ?_
      refine pw_ld E (pc' := 15) (st' := [pw_i k, .ref 147]) rfl (fun _ => rfl) ?_
      refine pw_ald2 I E (c := 131) (pc' := 16) rfl rfl rfl (by decide) rfl (by decide) (by omega) (by omega) rfl (fun hf7a hf7b => ?_)
      refine pw_if E (pc' := 23) rfl (by decide) (by omega) (by omega) ?_ ?_
      · intro hc8
        change pw_g h 131 (k.toNat) = (0 : Int) at hc8
        refine pw_ld E (pc' := 24) (st' := [pw_i 0]) rfl (fun _ => rfl) ?_
        refine pw_zret E rfl (by omega) ?_
        exact ⟨rfl, ⟨_, rfl, by omega, by omega, by omega⟩⟩
      · intro hc9
        change ¬ (pw_g h 131 (k.toNat) = (0 : Int)) at hc9
        refine pw_ld E (pc' := 20) (st' := [pw_i 1]) rfl (fun _ => rfl) ?_
        refine pw_goto E (pc' := 24) rfl (by decide) ?_
        refine pw_zret E rfl (by omega) ?_
        exact ⟨rfl, ⟨_, rfl, by omega, by omega, by omega⟩⟩
  · skip
    refine pw_if E (pc' := 23) rfl (by decide) (by omega) (by omega) ?_ ?_
    · intro hc11
      change x3 = (0 : Int) at hc11
      refine pw_ld E (pc' := 24) (st' := [pw_i 0]) rfl (fun _ => rfl) ?_
      refine pw_zret E rfl (by omega) ?_
      exact ⟨rfl, ⟨_, rfl, by omega, by omega, by omega⟩⟩
    · intro hc12
      change ¬ (x3 = (0 : Int)) at hc12
      exfalso; omega
set_option maxHeartbeats 4000000 in
theorem cm_213 {X : List (Nat × List Value)} {d : Nat} {h : pm_H} (hd : 3 ≤ d) (I : pw_I h) (b : Int) (hb1 : (-2147483648) ≤ b) (hb2 : b ≤ 2147483647) (e : Int) (he1 : (-2147483648) ≤ e) (he2 : e ≤ 2147483647) : pw X d h 213 0 [some (pw_i b), some (pw_i e)] [] (fun h' v => h = h' ∧ ∃ a : Int, v = .inl (some (pw_i a)) ∧ 0 ≤ a ∧ a ≤ 1 ∧ ((a = 1 ∧ 0 ≤ b ∧ b ≤ 11 ∧ 0 ≤ e ∧ e ≤ 11) ∨ a = 0)) := by
  have E : pm_ent 213 = some (2, 2, 12, 1, pmc_213) := rfl
  refine pw_ld E (pc' := 1) (st' := [pw_i b]) rfl (fun _ => rfl) ?_
  refine pw_call (m' := 205) (As := [pw_i b]) (rest := []) (ls'' := [some (pw_i b)]) (Nat.le_trans (by decide) hd) E rfl (fun _ => pw_iS rfl rfl rfl) (rfl : pm_ent 205 = some (1, 1, 12, 1, pmc_205)) rfl rfl (cm_205 (pw_dp hd (by decide)) I (b) (by omega) (by omega)) ?_
  rintro u2 v1 ⟨rfl, x3, rfl, hx3a, hx3b, hx3r⟩
  refine ⟨_, rfl, ?_⟩
  show pw X d h 213 4 [some (pw_i b), some (pw_i e)] [pw_i x3] _
  change (x3 = 1 ∧ 0 ≤ b ∧ b ≤ 11) ∨ (x3 = 0 ∧ ¬ (0 ≤ b ∧ b ≤ 11)) at hx3r
  rcases (by omega : x3 = 1 ∨ x3 = 0) with hb4 | hb4
  · skip
    refine pw_if E (pc' := 23) rfl (by decide) (by omega) (by omega) ?_ ?_
    · intro hc5
      change x3 = (0 : Int) at hc5
      exfalso; omega
    · intro hc6
      change ¬ (x3 = (0 : Int)) at hc6
      refine pw_ld E (pc' := 8) (st' := [pw_i e]) rfl (fun _ => rfl) ?_
      refine pw_call (m' := 205) (As := [pw_i e]) (rest := []) (ls'' := [some (pw_i e)]) (Nat.le_trans (by decide) hd) E rfl (fun _ => pw_iS rfl rfl rfl) (rfl : pm_ent 205 = some (1, 1, 12, 1, pmc_205)) rfl rfl (cm_205 (pw_dp hd (by decide)) I (e) (by omega) (by omega)) ?_
      rintro u8 v7 ⟨rfl, x9, rfl, hx9a, hx9b, hx9r⟩
      refine ⟨_, rfl, ?_⟩
      show pw X d h 213 11 [some (pw_i b), some (pw_i e)] [pw_i x9] _
      change (x9 = 1 ∧ 0 ≤ e ∧ e ≤ 11) ∨ (x9 = 0 ∧ ¬ (0 ≤ e ∧ e ≤ 11)) at hx9r
      rcases (by omega : x9 = 1 ∨ x9 = 0) with hb10 | hb10
      · skip
        refine pw_if E (pc' := 23) rfl (by decide) (by omega) (by omega) ?_ ?_
        · intro hc11
          change x9 = (0 : Int) at hc11
          exfalso; omega
        · intro hc12
          change ¬ (x9 = (0 : Int)) at hc12
          refine pw_ld E (pc' := 15) (st' := [pw_i b]) rfl (fun _ => rfl) ?_
          refine pw_ld E (pc' := 16) (st' := [pw_i e, pw_i b]) rfl (fun _ => rfl) ?_
          refine pw_if2 E (pc' := 23) rfl (by decide) (by omega) (by omega) (by omega) (by omega) ?_ ?_
          · intro hc13
            change b = e at hc13
            refine pw_ld E (pc' := 24) (st' := [pw_i 0]) rfl (fun _ => rfl) ?_
            refine pw_zret E rfl (by omega) ?_
            exact ⟨rfl, ⟨_, rfl, by omega, by omega, by omega⟩⟩
          · intro hc14
            change ¬ (b = e) at hc14
            refine pw_ld E (pc' := 20) (st' := [pw_i 1]) rfl (fun _ => rfl) ?_
            refine pw_goto E (pc' := 24) rfl (by decide) ?_
            refine pw_zret E rfl (by omega) ?_
            exact ⟨rfl, ⟨_, rfl, by omega, by omega, by omega⟩⟩
      · skip
        refine pw_if E (pc' := 23) rfl (by decide) (by omega) (by omega) ?_ ?_
        · intro hc16
          change x9 = (0 : Int) at hc16
          refine pw_ld E (pc' := 24) (st' := [pw_i 0]) rfl (fun _ => rfl) ?_
          refine pw_zret E rfl (by omega) ?_
          exact ⟨rfl, ⟨_, rfl, by omega, by omega, by omega⟩⟩
        · intro hc17
          change ¬ (x9 = (0 : Int)) at hc17
          exfalso; omega
  · skip
    refine pw_if E (pc' := 23) rfl (by decide) (by omega) (by omega) ?_ ?_
    · intro hc19
      change x3 = (0 : Int) at hc19
      refine pw_ld E (pc' := 24) (st' := [pw_i 0]) rfl (fun _ => rfl) ?_
      refine pw_zret E rfl (by omega) ?_
      exact ⟨rfl, ⟨_, rfl, by omega, by omega, by omega⟩⟩
    · intro hc20
      change ¬ (x3 = (0 : Int)) at hc20
      exfalso; omega
set_option maxHeartbeats 4000000 in
theorem cm_199 {X : List (Nat × List Value)} {d : Nat} {h : pm_H} (hd : 1 ≤ d) (I : pw_I h) (e8 : Int64) : pw X d h 199 0 [some (.ref 141), some (.long e8), none, none, none] [] (fun h' v => pw_I h' ∧ pw_E [125, 126, 1002] h h' ∧ v = .inl none) := by
  have E : pm_ent 199 = some (2, 5, 12, 4, pmc_199) := rfl
  have E0 : pw_E [125, 126, 1002] h h := pw_E.rf _ _
  refine pw_bip E (pc' := 2) rfl rfl (by decide) ?_
  refine pw_istn E (pc' := 3) (ls' := [some (.ref 141), some (.long e8), none, some (pw_i 56), none]) rfl rfl rfl rfl ?_
  have L3 : ∀ (n3 : Nat) (k3_3 : Int) (k3_4 : Option Value) (gh3 : pm_H), pw_I gh3 → pw_E [125, 126, 1002] h gh3 → (-8) ≤ k3_3 → k3_3 ≤ 56 → (k3_3 + 8).toNat = n3 → pw X d gh3 199 3 [some (.ref 141), some (.long e8), none, some (pw_i k3_3), k3_4] [] (fun h' v => pw_I h' ∧ pw_E [125, 126, 1002] h h' ∧ v = .inl none) := by
    intro n3
    induction n3 using Nat.strongRecOn with
    | ind n3 ih3 =>
      intro k3_3 k3_4 gh3 I3 E3 k3_3a k3_3b hm3
      refine pw_ld E (pc' := 4) (st' := [pw_i k3_3]) rfl (fun _ => rfl) ?_
      refine pw_if E (pc' := 75) rfl (by decide) (by omega) (by omega) ?_ ?_
      · intro hc1
        change k3_3 < (0 : Int) at hc1
        refine pw_vret E rfl ?_
        exact ⟨I3, E3, rfl⟩
      · intro hc2
        change ¬ (k3_3 < (0 : Int)) at hc2
        refine pw_ld E (pc' := 8) (st' := [.long e8]) rfl (fun _ => rfl) ?_
        refine pw_ld E (pc' := 9) (st' := [pw_i k3_3, .long e8]) rfl (fun _ => rfl) ?_
        refine pw_ld E (pc' := 10) (st' := [.long (e8 >>> ((Int32.ofInt k3_3).toInt64 &&& 63))]) rfl (fun _ => rfl) ?_
        refine pw_l2i E (pc' := 11) rfl rfl ?_
        intro x3 hx3a hx3b
        refine pw_sip E (pc' := 14) rfl rfl (by decide) ?_
        refine pw_ii (f := fun x y => x &&& y) E (pc' := 15) rfl (fun _ => rfl) ?_
        intro x4 hx4a hx4b
        refine pw_ist E (pc' := 17) (ls' := [some (.ref 141), some (.long e8), none, some (pw_i k3_3), some (pw_i x4)]) rfl rfl rfl rfl ?_
        refine pw_ld E (pc' := 19) (st' := [pw_i x4]) rfl (fun _ => rfl) ?_
        refine pw_bip E (pc' := 21) rfl rfl (by decide) ?_
        refine pw_if2 E (pc' := 38) rfl (by decide) (by omega) (by omega) (by decide) (by decide) ?_ ?_
        · intro hc5
          change x4 = (10 : Int) at hc5
          refine pw_ld E (pc' := 39) (st' := [.ref 141]) rfl (fun _ => rfl) ?_
          refine pw_getI2 I3 E (c := 125) (k := 2) (pc' := 42) rfl rfl rfl rfl rfl rfl (fun hf6a hf6b => ?_)
          refine pw_sip E (pc' := 45) rfl rfl (by decide) ?_
          refine pw_if2 E (pc' := 69) rfl (by decide) (by omega) (by omega) (by decide) (by decide) ?_ ?_
          · intro hc7
            change (1000 : Int) ≤ pw_g gh3 125 2 at hc7
            refine pw_inc E (pc' := 72) (ls' := [some (.ref 141), some (.long e8), none, some (pw_i (k3_3 + (-8))), some (pw_i x4)]) rfl rfl rfl rfl ?_
            refine pw_goto E (pc' := 3) rfl (by decide) ?_
            exact ih3 _ (by omega) (k3_3 + (-8)) (some (pw_i x4)) gh3 I3 E3 (by omega) (by omega)  rfl
          · intro hc8
            change ¬ ((1000 : Int) ≤ pw_g gh3 125 2) at hc8
            refine pw_ld E (pc' := 49) (st' := [.ref 141]) rfl (fun _ => rfl) ?_
            refine pw_getR (b := 142) I3 E (c := 125) (k := 1) (pc' := 52) rfl rfl rfl rfl rfl rfl rfl ?_
            refine pw_ld E (pc' := 53) (st' := [.ref 141, .ref 142]) rfl (fun _ => rfl) ?_
            refine pw_getI2 I3 E (c := 125) (k := 2) (pc' := 56) rfl rfl rfl rfl rfl rfl (fun hf9a hf9b => ?_)
            refine pw_ld E (pc' := 58) (st' := [pw_i x4, pw_i (pw_g gh3 125 2), .ref 142]) rfl (fun _ => rfl) ?_
            refine pw_ast0 I3 E (c := 126) (pc' := 59) rfl rfl rfl (by decide) rfl (by decide) (by omega) (by omega) rfl (by omega) (by omega) (by omega) (by omega) rfl ?_
            intro h10I h10E
            generalize h10w : pw_w gh3 126 ((pw_g gh3 125 2).toNat) (pw_i x4) = h10 at h10I h10E ⊢
            have h10F := E3.tr (h10E.wk (W' := [125, 126, 1002]) (by first | rfl | simp))
            refine pw_ld E (pc' := 60) (st' := [.ref 141]) rfl (fun _ => rfl) ?_
            refine pw_ld E (pc' := 61) (st' := [.ref 141, .ref 141]) rfl (fun _ => rfl) ?_
            have he12 : pw_g h10 125 2 = pw_g gh3 125 2 := by rw [← h10w]; exact pw_g_ne (by omega)
            refine pw_getI2 h10I E (c := 125) (k := 2) (pc' := 64) rfl rfl rfl rfl rfl rfl (fun hf11a hf11b => ?_)
            refine pw_ld E (pc' := 65) (st' := [pw_i 1, pw_i (pw_g h10 125 2), .ref 141]) rfl (fun _ => rfl) ?_
            refine pw_add E (pc' := 66) rfl rfl ?_
            refine pw_putP h10I E (k := 2) (pc' := 69) rfl rfl rfl rfl (by omega) (by omega) (by omega) (by omega) rfl rfl ?_
            intro h13I h13E
            generalize h13w : pw_w h10 125 2 (pw_i ((pw_g h10 125 2) + 1)) = h13 at h13I h13E ⊢
            have h13F := h10F.tr (h13E.wk (W' := [125, 126, 1002]) (by first | rfl | simp))
            refine pw_inc E (pc' := 72) (ls' := [some (.ref 141), some (.long e8), none, some (pw_i (k3_3 + (-8))), some (pw_i x4)]) rfl rfl rfl rfl ?_
            refine pw_goto E (pc' := 3) rfl (by decide) ?_
            exact ih3 _ (by omega) (k3_3 + (-8)) (some (pw_i x4)) h13 h13I h13F (by omega) (by omega)  rfl
        · intro hc14
          change ¬ (x4 = (10 : Int)) at hc14
          refine pw_ld E (pc' := 26) (st' := [pw_i x4]) rfl (fun _ => rfl) ?_
          refine pw_bip E (pc' := 28) rfl rfl (by decide) ?_
          refine pw_if2 E (pc' := 69) rfl (by decide) (by omega) (by omega) (by decide) (by decide) ?_ ?_
          · intro hc15
            change x4 < (32 : Int) at hc15
            refine pw_inc E (pc' := 72) (ls' := [some (.ref 141), some (.long e8), none, some (pw_i (k3_3 + (-8))), some (pw_i x4)]) rfl rfl rfl rfl ?_
            refine pw_goto E (pc' := 3) rfl (by decide) ?_
            exact ih3 _ (by omega) (k3_3 + (-8)) (some (pw_i x4)) gh3 I3 E3 (by omega) (by omega)  rfl
          · intro hc16
            change ¬ (x4 < (32 : Int)) at hc16
            refine pw_ld E (pc' := 33) (st' := [pw_i x4]) rfl (fun _ => rfl) ?_
            refine pw_bip E (pc' := 35) rfl rfl (by decide) ?_
            refine pw_if2 E (pc' := 69) rfl (by decide) (by omega) (by omega) (by decide) (by decide) ?_ ?_
            · intro hc17
              change (126 : Int) < x4 at hc17
              refine pw_inc E (pc' := 72) (ls' := [some (.ref 141), some (.long e8), none, some (pw_i (k3_3 + (-8))), some (pw_i x4)]) rfl rfl rfl rfl ?_
              refine pw_goto E (pc' := 3) rfl (by decide) ?_
              exact ih3 _ (by omega) (k3_3 + (-8)) (some (pw_i x4)) gh3 I3 E3 (by omega) (by omega)  rfl
            · intro hc18
              change ¬ ((126 : Int) < x4) at hc18
              refine pw_ld E (pc' := 39) (st' := [.ref 141]) rfl (fun _ => rfl) ?_
              refine pw_getI2 I3 E (c := 125) (k := 2) (pc' := 42) rfl rfl rfl rfl rfl rfl (fun hf19a hf19b => ?_)
              refine pw_sip E (pc' := 45) rfl rfl (by decide) ?_
              refine pw_if2 E (pc' := 69) rfl (by decide) (by omega) (by omega) (by decide) (by decide) ?_ ?_
              · intro hc20
                change (1000 : Int) ≤ pw_g gh3 125 2 at hc20
                refine pw_inc E (pc' := 72) (ls' := [some (.ref 141), some (.long e8), none, some (pw_i (k3_3 + (-8))), some (pw_i x4)]) rfl rfl rfl rfl ?_
                refine pw_goto E (pc' := 3) rfl (by decide) ?_
                exact ih3 _ (by omega) (k3_3 + (-8)) (some (pw_i x4)) gh3 I3 E3 (by omega) (by omega)  rfl
              · intro hc21
                change ¬ ((1000 : Int) ≤ pw_g gh3 125 2) at hc21
                refine pw_ld E (pc' := 49) (st' := [.ref 141]) rfl (fun _ => rfl) ?_
                refine pw_getR (b := 142) I3 E (c := 125) (k := 1) (pc' := 52) rfl rfl rfl rfl rfl rfl rfl ?_
                refine pw_ld E (pc' := 53) (st' := [.ref 141, .ref 142]) rfl (fun _ => rfl) ?_
                refine pw_getI2 I3 E (c := 125) (k := 2) (pc' := 56) rfl rfl rfl rfl rfl rfl (fun hf22a hf22b => ?_)
                refine pw_ld E (pc' := 58) (st' := [pw_i x4, pw_i (pw_g gh3 125 2), .ref 142]) rfl (fun _ => rfl) ?_
                refine pw_ast0 I3 E (c := 126) (pc' := 59) rfl rfl rfl (by decide) rfl (by decide) (by omega) (by omega) rfl (by omega) (by omega) (by omega) (by omega) rfl ?_
                intro h23I h23E
                generalize h23w : pw_w gh3 126 ((pw_g gh3 125 2).toNat) (pw_i x4) = h23 at h23I h23E ⊢
                have h23F := E3.tr (h23E.wk (W' := [125, 126, 1002]) (by first | rfl | simp))
                refine pw_ld E (pc' := 60) (st' := [.ref 141]) rfl (fun _ => rfl) ?_
                refine pw_ld E (pc' := 61) (st' := [.ref 141, .ref 141]) rfl (fun _ => rfl) ?_
                have he25 : pw_g h23 125 2 = pw_g gh3 125 2 := by rw [← h23w]; exact pw_g_ne (by omega)
                refine pw_getI2 h23I E (c := 125) (k := 2) (pc' := 64) rfl rfl rfl rfl rfl rfl (fun hf24a hf24b => ?_)
                refine pw_ld E (pc' := 65) (st' := [pw_i 1, pw_i (pw_g h23 125 2), .ref 141]) rfl (fun _ => rfl) ?_
                refine pw_add E (pc' := 66) rfl rfl ?_
                refine pw_putP h23I E (k := 2) (pc' := 69) rfl rfl rfl rfl (by omega) (by omega) (by omega) (by omega) rfl rfl ?_
                intro h26I h26E
                generalize h26w : pw_w h23 125 2 (pw_i ((pw_g h23 125 2) + 1)) = h26 at h26I h26E ⊢
                have h26F := h23F.tr (h26E.wk (W' := [125, 126, 1002]) (by first | rfl | simp))
                refine pw_inc E (pc' := 72) (ls' := [some (.ref 141), some (.long e8), none, some (pw_i (k3_3 + (-8))), some (pw_i x4)]) rfl rfl rfl rfl ?_
                refine pw_goto E (pc' := 3) rfl (by decide) ?_
                exact ih3 _ (by omega) (k3_3 + (-8)) (some (pw_i x4)) h26 h26I h26F (by omega) (by omega)  rfl
  exact L3 _ (56) (none) h I E0 (by omega) (by omega)  rfl
set_option maxHeartbeats 4000000 in
theorem cm_198 {X : List (Nat × List Value)} {d : Nat} {h : pm_H} (hd : 2 ≤ d) (I : pw_I h) (x : Int64) (y : Int64) (z : Int64) : pw X d h 198 0 [some (.ref 141), some (.long x), none, some (.long y), none, some (.long z), none] [] (fun h' v => pw_I h' ∧ pw_E [125, 126, 1002] h h' ∧ ∃ a : Int, v = .inl (some (pw_i a)) ∧ (-2147483648) ≤ a ∧ a ≤ 2147483647) := by
  have E : pm_ent 198 = some (4, 7, 12, 0, pmc_198) := rfl
  have E0 : pw_E [125, 126, 1002] h h := pw_E.rf _ _
  refine pw_ld E (pc' := 1) (st' := [.ref 141]) rfl (fun _ => rfl) ?_
  refine pw_ld E (pc' := 2) (st' := [pw_i 0, .ref 141]) rfl (fun _ => rfl) ?_
  refine pw_putI I E (c := 125) (k := 0) (pc' := 5) rfl rfl rfl rfl (by omega) (by omega) (by omega) (by omega) rfl rfl ?_
  intro h1I h1E
  generalize h1w : pw_w h 125 0 (pw_i 0) = h1 at h1I h1E ⊢
  have h1F := E0.tr (h1E.wk (W' := [125, 126, 1002]) (by first | rfl | simp))
  refine pw_ld E (pc' := 6) (st' := [.ref 141]) rfl (fun _ => rfl) ?_
  refine pw_ld E (pc' := 7) (st' := [.long x, .ref 141]) rfl (fun _ => rfl) ?_
  obtain ⟨f2l, f2h, -⟩ := pw_obj (c := 125) h1I rfl
  refine pw_call (m' := 199) (As := [.ref 141, .long x]) (rest := []) (ls'' := [some (.ref 141), some (.long x), none, none, none]) (Nat.le_trans (by decide) hd) E rfl (fun _ => pw_iV rfl rfl rfl rfl (pw_cellI f2h rfl)) (rfl : pm_ent 199 = some (2, 5, 12, 4, pmc_199)) rfl rfl (cm_199 (pw_dp hd (by decide)) h1I (x)) ?_
  rintro h3 v4 ⟨h3I, h3E, rfl⟩
  refine ⟨_, rfl, ?_⟩
  have h3F := h1F.tr (h3E.wk (W' := [125, 126, 1002]) (by first | rfl | simp))
  show pw X d h3 198 10 [some (.ref 141), some (.long x), none, some (.long y), none, some (.long z), none] [] _
  refine pw_ld E (pc' := 11) (st' := [.ref 141]) rfl (fun _ => rfl) ?_
  refine pw_ld E (pc' := 12) (st' := [.long y, .ref 141]) rfl (fun _ => rfl) ?_
  obtain ⟨f5l, f5h, -⟩ := pw_obj (c := 125) h3I rfl
  refine pw_call (m' := 199) (As := [.ref 141, .long y]) (rest := []) (ls'' := [some (.ref 141), some (.long y), none, none, none]) (Nat.le_trans (by decide) hd) E rfl (fun _ => pw_iV rfl rfl rfl rfl (pw_cellI f5h rfl)) (rfl : pm_ent 199 = some (2, 5, 12, 4, pmc_199)) rfl rfl (cm_199 (pw_dp hd (by decide)) h3I (y)) ?_
  rintro h6 v7 ⟨h6I, h6E, rfl⟩
  refine ⟨_, rfl, ?_⟩
  have h6F := h3F.tr (h6E.wk (W' := [125, 126, 1002]) (by first | rfl | simp))
  show pw X d h6 198 15 [some (.ref 141), some (.long x), none, some (.long y), none, some (.long z), none] [] _
  refine pw_ld E (pc' := 16) (st' := [.ref 141]) rfl (fun _ => rfl) ?_
  refine pw_ld E (pc' := 18) (st' := [.long z, .ref 141]) rfl (fun _ => rfl) ?_
  obtain ⟨f8l, f8h, -⟩ := pw_obj (c := 125) h6I rfl
  refine pw_call (m' := 199) (As := [.ref 141, .long z]) (rest := []) (ls'' := [some (.ref 141), some (.long z), none, none, none]) (Nat.le_trans (by decide) hd) E rfl (fun _ => pw_iV rfl rfl rfl rfl (pw_cellI f8h rfl)) (rfl : pm_ent 199 = some (2, 5, 12, 4, pmc_199)) rfl rfl (cm_199 (pw_dp hd (by decide)) h6I (z)) ?_
  rintro h9 v10 ⟨h9I, h9E, rfl⟩
  refine ⟨_, rfl, ?_⟩
  have h9F := h6F.tr (h9E.wk (W' := [125, 126, 1002]) (by first | rfl | simp))
  show pw X d h9 198 21 [some (.ref 141), some (.long x), none, some (.long y), none, some (.long z), none] [] _
  refine pw_ld E (pc' := 22) (st' := [.ref 141]) rfl (fun _ => rfl) ?_
  refine pw_getI2 h9I E (c := 125) (k := 2) (pc' := 25) rfl rfl rfl rfl rfl rfl (fun hf11a hf11b => ?_)
  refine pw_iret E rfl ?_
  exact ⟨h9I, h9F, ⟨_, rfl, by omega, by omega⟩⟩
set_option maxHeartbeats 4000000 in
theorem cm_211 {X : List (Nat × List Value)} {d : Nat} {h : pm_H} (hd : 1 ≤ d) (I : pw_I h) (w : Int) (hw1 : (-2147483648) ≤ w) (hw2 : w ≤ 2147483647) (hf : Int) (hhf1 : (-2147483648) ≤ hf) (hhf2 : hf ≤ 2147483647) : pw X d h 211 0 [some (.ref 141), some (pw_i w), some (pw_i hf)] [] (fun h' v => h = h' ∧ ∃ a : Int, v = .inl (some (pw_i a)) ∧ (-2147483648) ≤ a ∧ a ≤ 2147483647) := by
  have E : pm_ent 211 = some (3, 3, 12, 0, pmc_211) := rfl
  refine pw_bip E (pc' := 2) rfl rfl (by decide) ?_
  refine pw_ld E (pc' := 3) (st' := [pw_i w, pw_i 10]) rfl (fun _ => rfl) ?_
  refine pw_mul E (pc' := 4) rfl rfl ?_
  refine pw_nm (fun x1 hx1a hx1b => ?_)
  refine pw_ld E (pc' := 5) (st' := [.ref 141, pw_i x1]) rfl (fun _ => rfl) ?_
  refine pw_getI2 I E (c := 125) (k := 15) (pc' := 8) rfl rfl rfl rfl rfl rfl (fun hf2a hf2b => ?_)
  refine pw_ld E (pc' := 9) (st' := [pw_i hf, pw_i (pw_g h 125 15), pw_i x1]) rfl (fun _ => rfl) ?_
  refine pw_mul E (pc' := 10) rfl rfl ?_
  refine pw_nm (fun x3 hx3a hx3b => ?_)
  refine pw_add E (pc' := 11) rfl rfl ?_
  refine pw_nm (fun x4 hx4a hx4b => ?_)
  refine pw_iret E rfl ?_
  exact ⟨rfl, ⟨_, rfl, by omega, by omega⟩⟩
set_option maxHeartbeats 4000000 in
theorem cm_210 {X : List (Nat × List Value)} {d : Nat} {h : pm_H} (hd : 2 ≤ d) (I : pw_I h) (k : Int) (hk1 : 0 ≤ k) (hk2 : k ≤ 23) (mo : Int) (hmo1 : 0 ≤ mo) (hmo2 : mo ≤ 11) : pw X d h 210 0 [some (.ref 141), some (pw_i k), some (pw_i mo)] [] (fun h' v => h = h' ∧ ∃ a : Int, v = .inl (some (pw_i a)) ∧ (-2147483648) ≤ a ∧ a ≤ 2147483647) := by
  have E : pm_ent 210 = some (3, 3, 12, 0, pmc_210) := rfl
  refine pw_ld E (pc' := 1) (st' := [.ref 141]) rfl (fun _ => rfl) ?_
  refine pw_ld E (pc' := 2) (st' := [.ref 141, .ref 141]) rfl (fun _ => rfl) ?_
  refine pw_getR (b := 155) I E (c := 125) (k := 19) (pc' := 5) rfl rfl rfl rfl rfl rfl rfl ?_
  refine pw_bip E (pc' := 7) rfl rfl (by decide) ?_
  refine pw_ld E (pc' := 8) (st' := [pw_i k, pw_i 12, .ref 155, .ref 141]) rfl (fun _ => rfl) ?_
  refine pw_mul E (pc' := 9) rfl rfl ?_
  refine pw_ld E (pc' := 10) (st' := [pw_i mo, pw_i (12 * k), .ref 155, .ref 141]) rfl (fun _ => rfl) ?_
  refine pw_add E (pc' := 11) rfl rfl ?_
  refine pw_ald2 I E (c := 139) (pc' := 12) rfl rfl rfl (by decide) rfl (by decide) (by omega) (by omega) rfl (fun hf1a hf1b => ?_)
  refine pw_ld E (pc' := 13) (st' := [.ref 141, pw_i (pw_g h 139 (((12 * k) + mo).toNat)), .ref 141]) rfl (fun _ => rfl) ?_
  refine pw_getR (b := 156) I E (c := 125) (k := 20) (pc' := 16) rfl rfl rfl rfl rfl rfl rfl ?_
  refine pw_bip E (pc' := 18) rfl rfl (by decide) ?_
  refine pw_ld E (pc' := 19) (st' := [pw_i k, pw_i 12, .ref 156, pw_i (pw_g h 139 (((12 * k) + mo).toNat)), .ref 141]) rfl (fun _ => rfl) ?_
  refine pw_mul E (pc' := 20) rfl rfl ?_
  refine pw_ld E (pc' := 21) (st' := [pw_i mo, pw_i (12 * k), .ref 156, pw_i (pw_g h 139 (((12 * k) + mo).toNat)), .ref 141]) rfl (fun _ => rfl) ?_
  refine pw_add E (pc' := 22) rfl rfl ?_
  refine pw_ald2 I E (c := 140) (pc' := 23) rfl rfl rfl (by decide) rfl (by decide) (by omega) (by omega) rfl (fun hf2a hf2b => ?_)
  obtain ⟨f3l, f3h, -⟩ := pw_obj (c := 125) I rfl
  refine pw_call (m' := 211) (As := [.ref 141, pw_i (pw_g h 139 (((12 * k) + mo).toNat)), pw_i (pw_g h 140 (((12 * k) + mo).toNat))]) (rest := []) (ls'' := [some (.ref 141), some (pw_i (pw_g h 139 (((12 * k) + mo).toNat))), some (pw_i (pw_g h 140 (((12 * k) + mo).toNat)))]) (Nat.le_trans (by decide) hd) E rfl (fun _ => pw_iV rfl rfl rfl rfl (pw_cellI f3h rfl)) (rfl : pm_ent 211 = some (3, 3, 12, 0, pmc_211)) rfl rfl (cm_211 (pw_dp hd (by decide)) I (pw_g h 139 (((12 * k) + mo).toNat)) (by omega) (by omega) (pw_g h 140 (((12 * k) + mo).toNat)) (by omega) (by omega)) ?_
  rintro u5 v4 ⟨rfl, x6, rfl, hx6a, hx6b⟩
  refine ⟨_, rfl, ?_⟩
  show pw X d h 210 26 [some (.ref 141), some (pw_i k), some (pw_i mo)] [pw_i x6] _
  refine pw_iret E rfl ?_
  exact ⟨rfl, ⟨_, rfl, by omega, by omega⟩⟩
set_option maxHeartbeats 4000000 in
theorem cm_209 {X : List (Nat × List Value)} {d : Nat} {h : pm_H} (hd : 3 ≤ d) (I : pw_I h) (k : Int) (hk1 : (-2147483648) ≤ k) (hk2 : k ≤ 2147483647) (mo : Int) (hmo1 : (-2147483648) ≤ mo) (hmo2 : mo ≤ 2147483647) : pw X d h 209 0 [some (.ref 141), some (pw_i k), some (pw_i mo)] [] (fun h' v => pw_I h' ∧ pw_E [125] h h' ∧ ∃ a : Int, v = .inl (some (pw_i a)) ∧ (-2147483648) ≤ a ∧ a ≤ 2147483647) := by
  have E : pm_ent 209 = some (3, 3, 12, 0, pmc_209) := rfl
  have E0 : pw_E [125] h h := pw_E.rf _ _
  refine pw_ld E (pc' := 1) (st' := [.ref 141]) rfl (fun _ => rfl) ?_
  refine pw_ld E (pc' := 2) (st' := [pw_i 0, .ref 141]) rfl (fun _ => rfl) ?_
  refine pw_putI I E (c := 125) (k := 0) (pc' := 5) rfl rfl rfl rfl (by omega) (by omega) (by omega) (by omega) rfl rfl ?_
  intro h1I h1E
  generalize h1w : pw_w h 125 0 (pw_i 0) = h1 at h1I h1E ⊢
  have h1F := E0.tr (h1E.wk (W' := [125]) (by first | rfl | simp))
  refine pw_ld E (pc' := 6) (st' := [.ref 141]) rfl (fun _ => rfl) ?_
  refine pw_ld E (pc' := 7) (st' := [pw_i k, .ref 141]) rfl (fun _ => rfl) ?_
  obtain ⟨f2l, f2h, -⟩ := pw_obj (c := 125) h1I rfl
  refine pw_call (m' := 204) (As := [.ref 141, pw_i k]) (rest := []) (ls'' := [some (.ref 141), some (pw_i k)]) (Nat.le_trans (by decide) hd) E rfl (fun _ => pw_iV rfl rfl rfl rfl (pw_cellI f2h rfl)) (rfl : pm_ent 204 = some (2, 2, 12, 1, pmc_204)) rfl rfl (cm_204 (pw_dp hd (by decide)) h1I (k) (by omega) (by omega)) ?_
  rintro u4 v3 ⟨rfl, x5, rfl, hx5a, hx5b, hx5r⟩
  refine ⟨_, rfl, ?_⟩
  show pw X d h1 209 10 [some (.ref 141), some (pw_i k), some (pw_i mo)] [pw_i x5] _
  change (x5 = 1 ∧ 0 ≤ k ∧ k ≤ 23) ∨ x5 = 0 at hx5r
  rcases (by omega : x5 = 1 ∨ x5 = 0) with hb6 | hb6
  · skip
    refine pw_if E (pc' := 43) rfl (by decide) (by omega) (by omega) ?_ ?_
    · intro hc7
      change x5 = (0 : Int) at hc7
      exfalso; omega
    · intro hc8
      change ¬ (x5 = (0 : Int)) at hc8
      refine pw_ld E (pc' := 14) (st' := [pw_i mo]) rfl (fun _ => rfl) ?_
      refine pw_call (m' := 205) (As := [pw_i mo]) (rest := []) (ls'' := [some (pw_i mo)]) (Nat.le_trans (by decide) hd) E rfl (fun _ => pw_iS rfl rfl rfl) (rfl : pm_ent 205 = some (1, 1, 12, 1, pmc_205)) rfl rfl (cm_205 (pw_dp hd (by decide)) h1I (mo) (by omega) (by omega)) ?_
      rintro u10 v9 ⟨rfl, x11, rfl, hx11a, hx11b, hx11r⟩
      refine ⟨_, rfl, ?_⟩
      show pw X d h1 209 17 [some (.ref 141), some (pw_i k), some (pw_i mo)] [pw_i x11] _
      change (x11 = 1 ∧ 0 ≤ mo ∧ mo ≤ 11) ∨ (x11 = 0 ∧ ¬ (0 ≤ mo ∧ mo ≤ 11)) at hx11r
      rcases (by omega : x11 = 1 ∨ x11 = 0) with hb12 | hb12
      · skip
        refine pw_if E (pc' := 43) rfl (by decide) (by omega) (by omega) ?_ ?_
        · intro hc13
          change x11 = (0 : Int) at hc13
          exfalso; omega
        · intro hc14
          change ¬ (x11 = (0 : Int)) at hc14
          refine pw_ld E (pc' := 21) (st' := [.ref 141]) rfl (fun _ => rfl) ?_
          refine pw_getR (b := 154) h1I E (c := 125) (k := 18) (pc' := 24) rfl rfl rfl rfl rfl rfl rfl ?_
          refine pw_bip E (pc' := 26) rfl rfl (by decide) ?_
          refine pw_ld E (pc' := 27) (st' := [pw_i k, pw_i 12, .ref 154]) rfl (fun _ => rfl) ?_
          refine pw_mul E (pc' := 28) rfl rfl ?_
          refine pw_ld E (pc' := 29) (st' := [pw_i mo, pw_i (12 * k), .ref 154]) rfl (fun _ => rfl) ?_
          refine pw_add E (pc' := 30) rfl rfl ?_
          refine pw_ald2 h1I E (c := 138) (pc' := 31) rfl rfl rfl (by decide) rfl (by decide) (by omega) (by omega) rfl (fun hf15a hf15b => ?_)
          refine pw_if E (pc' := 43) rfl (by decide) (by omega) (by omega) ?_ ?_
          · intro hc16
            change pw_g h1 138 (((12 * k) + mo).toNat) = (0 : Int) at hc16
            refine pw_ld E (pc' := 44) (st' := [pw_i ((-1))]) rfl (fun _ => rfl) ?_
            refine pw_iret E rfl ?_
            exact ⟨h1I, h1F, ⟨_, rfl, by omega, by omega⟩⟩
          · intro hc17
            change ¬ (pw_g h1 138 (((12 * k) + mo).toNat) = (0 : Int)) at hc17
            refine pw_ld E (pc' := 35) (st' := [.ref 141]) rfl (fun _ => rfl) ?_
            refine pw_ld E (pc' := 36) (st' := [pw_i k, .ref 141]) rfl (fun _ => rfl) ?_
            refine pw_ld E (pc' := 37) (st' := [pw_i mo, pw_i k, .ref 141]) rfl (fun _ => rfl) ?_
            obtain ⟨f18l, f18h, -⟩ := pw_obj (c := 125) h1I rfl
            refine pw_call (m' := 210) (As := [.ref 141, pw_i k, pw_i mo]) (rest := []) (ls'' := [some (.ref 141), some (pw_i k), some (pw_i mo)]) (Nat.le_trans (by decide) hd) E rfl (fun _ => pw_iV rfl rfl rfl rfl (pw_cellI f18h rfl)) (rfl : pm_ent 210 = some (3, 3, 12, 0, pmc_210)) rfl rfl (cm_210 (pw_dp hd (by decide)) h1I (k) (by omega) (by omega) (mo) (by omega) (by omega)) ?_
            rintro u20 v19 ⟨rfl, x21, rfl, hx21a, hx21b⟩
            refine ⟨_, rfl, ?_⟩
            show pw X d h1 209 40 [some (.ref 141), some (pw_i k), some (pw_i mo)] [pw_i x21] _
            refine pw_goto E (pc' := 44) rfl (by decide) ?_
            refine pw_iret E rfl ?_
            exact ⟨h1I, h1F, ⟨_, rfl, by omega, by omega⟩⟩
      · skip
        refine pw_if E (pc' := 43) rfl (by decide) (by omega) (by omega) ?_ ?_
        · intro hc23
          change x11 = (0 : Int) at hc23
          refine pw_ld E (pc' := 44) (st' := [pw_i ((-1))]) rfl (fun _ => rfl) ?_
          refine pw_iret E rfl ?_
          exact ⟨h1I, h1F, ⟨_, rfl, by omega, by omega⟩⟩
        · intro hc24
          change ¬ (x11 = (0 : Int)) at hc24
          exfalso; omega
  · skip
    refine pw_if E (pc' := 43) rfl (by decide) (by omega) (by omega) ?_ ?_
    · intro hc26
      change x5 = (0 : Int) at hc26
      refine pw_ld E (pc' := 44) (st' := [pw_i ((-1))]) rfl (fun _ => rfl) ?_
      refine pw_iret E rfl ?_
      exact ⟨h1I, h1F, ⟨_, rfl, by omega, by omega⟩⟩
    · intro hc27
      change ¬ (x5 = (0 : Int)) at hc27
      exfalso; omega
set_option maxHeartbeats 4000000 in
theorem cm_214 {X : List (Nat × List Value)} {d : Nat} {h : pm_H} (hd : 1 ≤ d) (I : pw_I h) (k : Int) (hk1 : 0 ≤ k) (hk2 : k ≤ 23) (b : Int) (hb1 : 0 ≤ b) (hb2 : b ≤ 11) (e : Int) (he1 : 0 ≤ e) (he2 : e ≤ 11) : pw X d h 214 0 [some (.ref 141), some (pw_i k), some (pw_i b), some (pw_i e)] [] (fun h' v => h = h' ∧ ∃ a : Int, v = .inl (some (pw_i a)) ∧ 0 ≤ a ∧ a ≤ 1) := by
  have E : pm_ent 214 = some (4, 4, 12, 1, pmc_214) := rfl
  refine pw_ld E (pc' := 1) (st' := [.ref 141]) rfl (fun _ => rfl) ?_
  refine pw_getR (b := 147) I E (c := 125) (k := 10) (pc' := 4) rfl rfl rfl rfl rfl rfl rfl ?_
  refine pw_ld E (pc' := 5) (st' := [pw_i k, .ref 147]) rfl (fun _ => rfl) ?_
  refine pw_ald2 I E (c := 131) (pc' := 6) rfl rfl rfl (by decide) rfl (by decide) (by omega) (by omega) rfl (fun hf1a hf1b => ?_)
  refine pw_if E (pc' := 41) rfl (by decide) (by omega) (by omega) ?_ ?_
  · intro hc2
    change pw_g h 131 (k.toNat) = (0 : Int) at hc2
    refine pw_ld E (pc' := 42) (st' := [pw_i 0]) rfl (fun _ => rfl) ?_
    refine pw_zret E rfl (by omega) ?_
    exact ⟨rfl, ⟨_, rfl, by omega, by omega⟩⟩
  · intro hc3
    change ¬ (pw_g h 131 (k.toNat) = (0 : Int)) at hc3
    refine pw_ld E (pc' := 10) (st' := [.ref 141]) rfl (fun _ => rfl) ?_
    refine pw_getR (b := 154) I E (c := 125) (k := 18) (pc' := 13) rfl rfl rfl rfl rfl rfl rfl ?_
    refine pw_bip E (pc' := 15) rfl rfl (by decide) ?_
    refine pw_ld E (pc' := 16) (st' := [pw_i k, pw_i 12, .ref 154]) rfl (fun _ => rfl) ?_
    refine pw_mul E (pc' := 17) rfl rfl ?_
    refine pw_ld E (pc' := 18) (st' := [pw_i b, pw_i (12 * k), .ref 154]) rfl (fun _ => rfl) ?_
    refine pw_add E (pc' := 19) rfl rfl ?_
    refine pw_ald2 I E (c := 138) (pc' := 20) rfl rfl rfl (by decide) rfl (by decide) (by omega) (by omega) rfl (fun hf4a hf4b => ?_)
    refine pw_if E (pc' := 41) rfl (by decide) (by omega) (by omega) ?_ ?_
    · intro hc5
      change pw_g h 138 (((12 * k) + b).toNat) = (0 : Int) at hc5
      refine pw_ld E (pc' := 42) (st' := [pw_i 0]) rfl (fun _ => rfl) ?_
      refine pw_zret E rfl (by omega) ?_
      exact ⟨rfl, ⟨_, rfl, by omega, by omega⟩⟩
    · intro hc6
      change ¬ (pw_g h 138 (((12 * k) + b).toNat) = (0 : Int)) at hc6
      refine pw_ld E (pc' := 24) (st' := [.ref 141]) rfl (fun _ => rfl) ?_
      refine pw_getR (b := 154) I E (c := 125) (k := 18) (pc' := 27) rfl rfl rfl rfl rfl rfl rfl ?_
      refine pw_bip E (pc' := 29) rfl rfl (by decide) ?_
      refine pw_ld E (pc' := 30) (st' := [pw_i k, pw_i 12, .ref 154]) rfl (fun _ => rfl) ?_
      refine pw_mul E (pc' := 31) rfl rfl ?_
      refine pw_ld E (pc' := 32) (st' := [pw_i e, pw_i (12 * k), .ref 154]) rfl (fun _ => rfl) ?_
      refine pw_add E (pc' := 33) rfl rfl ?_
      refine pw_ald2 I E (c := 138) (pc' := 34) rfl rfl rfl (by decide) rfl (by decide) (by omega) (by omega) rfl (fun hf7a hf7b => ?_)
      refine pw_if E (pc' := 41) rfl (by decide) (by omega) (by omega) ?_ ?_
      · intro hc8
        change pw_g h 138 (((12 * k) + e).toNat) = (0 : Int) at hc8
        refine pw_ld E (pc' := 42) (st' := [pw_i 0]) rfl (fun _ => rfl) ?_
        refine pw_zret E rfl (by omega) ?_
        exact ⟨rfl, ⟨_, rfl, by omega, by omega⟩⟩
      · intro hc9
        change ¬ (pw_g h 138 (((12 * k) + e).toNat) = (0 : Int)) at hc9
        refine pw_ld E (pc' := 38) (st' := [pw_i 1]) rfl (fun _ => rfl) ?_
        refine pw_goto E (pc' := 42) rfl (by decide) ?_
        refine pw_zret E rfl (by omega) ?_
        exact ⟨rfl, ⟨_, rfl, by omega, by omega⟩⟩
set_option maxHeartbeats 4000000 in
theorem cm_215 {X : List (Nat × List Value)} {d : Nat} {h : pm_H} (hd : 3 ≤ d) (I : pw_I h) (k : Int) (hk1 : 0 ≤ k) (hk2 : k ≤ 23) (b : Int) (hb1 : 0 ≤ b) (hb2 : b ≤ 11) (e : Int) (he1 : 0 ≤ e) (he2 : e ≤ 11) : pw X d h 215 0 [some (.ref 141), some (pw_i k), some (pw_i b), some (pw_i e)] [] (fun h' v => h = h' ∧ ∃ a : Int, v = .inl (some (pw_i a)) ∧ (-2147483648) ≤ a ∧ a ≤ 2147483647) := by
  have E : pm_ent 215 = some (4, 4, 12, 0, pmc_215) := rfl
  refine pw_ld E (pc' := 1) (st' := [.ref 141]) rfl (fun _ => rfl) ?_
  refine pw_ld E (pc' := 2) (st' := [pw_i k, .ref 141]) rfl (fun _ => rfl) ?_
  refine pw_ld E (pc' := 3) (st' := [pw_i e, pw_i k, .ref 141]) rfl (fun _ => rfl) ?_
  obtain ⟨f1l, f1h, -⟩ := pw_obj (c := 125) I rfl
  refine pw_call (m' := 210) (As := [.ref 141, pw_i k, pw_i e]) (rest := []) (ls'' := [some (.ref 141), some (pw_i k), some (pw_i e)]) (Nat.le_trans (by decide) hd) E rfl (fun _ => pw_iV rfl rfl rfl rfl (pw_cellI f1h rfl)) (rfl : pm_ent 210 = some (3, 3, 12, 0, pmc_210)) rfl rfl (cm_210 (pw_dp hd (by decide)) I (k) (by omega) (by omega) (e) (by omega) (by omega)) ?_
  rintro u3 v2 ⟨rfl, x4, rfl, hx4a, hx4b⟩
  refine ⟨_, rfl, ?_⟩
  show pw X d h 215 6 [some (.ref 141), some (pw_i k), some (pw_i b), some (pw_i e)] [pw_i x4] _
  refine pw_ld E (pc' := 7) (st' := [.ref 141, pw_i x4]) rfl (fun _ => rfl) ?_
  refine pw_ld E (pc' := 8) (st' := [pw_i k, .ref 141, pw_i x4]) rfl (fun _ => rfl) ?_
  refine pw_ld E (pc' := 9) (st' := [pw_i b, pw_i k, .ref 141, pw_i x4]) rfl (fun _ => rfl) ?_
  obtain ⟨f5l, f5h, -⟩ := pw_obj (c := 125) I rfl
  refine pw_call (m' := 210) (As := [.ref 141, pw_i k, pw_i b]) (rest := [pw_i x4]) (ls'' := [some (.ref 141), some (pw_i k), some (pw_i b)]) (Nat.le_trans (by decide) hd) E rfl (fun _ => pw_iV rfl rfl rfl rfl (pw_cellI f5h rfl)) (rfl : pm_ent 210 = some (3, 3, 12, 0, pmc_210)) rfl rfl (cm_210 (pw_dp hd (by decide)) I (k) (by omega) (by omega) (b) (by omega) (by omega)) ?_
  rintro u7 v6 ⟨rfl, x8, rfl, hx8a, hx8b⟩
  refine ⟨_, rfl, ?_⟩
  show pw X d h 215 12 [some (.ref 141), some (pw_i k), some (pw_i b), some (pw_i e)] [pw_i x8, pw_i x4] _
  refine pw_sub E (pc' := 13) rfl rfl ?_
  refine pw_nm (fun x9 hx9a hx9b => ?_)
  refine pw_iret E rfl ?_
  exact ⟨rfl, ⟨_, rfl, by omega, by omega⟩⟩
set_option maxHeartbeats 4000000 in
theorem cm_212 {X : List (Nat × List Value)} {d : Nat} {h : pm_H} (hd : 4 ≤ d) (I : pw_I h) (bk : Int) (hbk1 : (-2147483648) ≤ bk) (hbk2 : bk ≤ 2147483647) (b : Int) (hb1 : (-2147483648) ≤ b) (hb2 : b ≤ 2147483647) (e : Int) (he1 : (-2147483648) ≤ e) (he2 : e ≤ 2147483647) (wt : Int) (hwt1 : (-2147483648) ≤ wt) (hwt2 : wt ≤ 2147483647) : pw X d h 212 0 [some (.ref 141), some (pw_i bk), some (pw_i b), some (pw_i e), some (pw_i wt), none, none, none, none, none, none] [] (fun h' v => pw_I h' ∧ pw_E [125] h h' ∧ ∃ a : Int, v = .inl (some (pw_i a)) ∧ (-2147483648) ≤ a ∧ a ≤ 2147483647) := by
  have E : pm_ent 212 = some (5, 11, 12, 0, pmc_212) := rfl
  have E0 : pw_E [125] h h := pw_E.rf _ _
  refine pw_ld E (pc' := 1) (st' := [.ref 141]) rfl (fun _ => rfl) ?_
  refine pw_ld E (pc' := 2) (st' := [pw_i bk, .ref 141]) rfl (fun _ => rfl) ?_
  refine pw_ld E (pc' := 3) (st' := [pw_i 0, pw_i bk, .ref 141]) rfl (fun _ => rfl) ?_
  refine pw_ld E (pc' := 4) (st' := [pw_i 1, pw_i 0, pw_i bk, .ref 141]) rfl (fun _ => rfl) ?_
  refine pw_call (m' := 202) (As := [pw_i bk, pw_i 0, pw_i 1]) (rest := [.ref 141]) (ls'' := [some (pw_i bk), some (pw_i 0), some (pw_i 1)]) (Nat.le_trans (by decide) hd) E rfl (fun _ => pw_iS rfl rfl rfl) (rfl : pm_ent 202 = some (3, 3, 12, 1, pmc_202)) rfl rfl (cm_202 (pw_dp hd (by decide)) I (bk) (by omega) (by omega) (0) (by omega) (by omega) (1) (by omega) (by omega)) ?_
  rintro u2 v1 ⟨rfl, x3, rfl, hx3a, hx3b, hx3r⟩
  refine ⟨_, rfl, ?_⟩
  show pw X d h 212 7 [some (.ref 141), some (pw_i bk), some (pw_i b), some (pw_i e), some (pw_i wt), none, none, none, none, none, none] [pw_i x3, .ref 141] _
  change (x3 = 1 ∧ 0 ≤ bk ∧ bk ≤ 1) ∨ (x3 = 0 ∧ ¬ (0 ≤ bk ∧ bk ≤ 1)) at hx3r
  rcases (by omega : x3 = 1 ∨ x3 = 0) with hb4 | hb4
  · skip
    refine pw_if E (pc' := 32) rfl (by decide) (by omega) (by omega) ?_ ?_
    · intro hc5
      change x3 = (0 : Int) at hc5
      exfalso; omega
    · intro hc6
      change ¬ (x3 = (0 : Int)) at hc6
      refine pw_ld E (pc' := 11) (st' := [pw_i b, .ref 141]) rfl (fun _ => rfl) ?_
      refine pw_ld E (pc' := 12) (st' := [pw_i e, pw_i b, .ref 141]) rfl (fun _ => rfl) ?_
      refine pw_call (m' := 213) (As := [pw_i b, pw_i e]) (rest := [.ref 141]) (ls'' := [some (pw_i b), some (pw_i e)]) (Nat.le_trans (by decide) hd) E rfl (fun _ => pw_iS rfl rfl rfl) (rfl : pm_ent 213 = some (2, 2, 12, 1, pmc_213)) rfl rfl (cm_213 (pw_dp hd (by decide)) I (b) (by omega) (by omega) (e) (by omega) (by omega)) ?_
      rintro u8 v7 ⟨rfl, x9, rfl, hx9a, hx9b, hx9r⟩
      refine ⟨_, rfl, ?_⟩
      show pw X d h 212 15 [some (.ref 141), some (pw_i bk), some (pw_i b), some (pw_i e), some (pw_i wt), none, none, none, none, none, none] [pw_i x9, .ref 141] _
      change (x9 = 1 ∧ 0 ≤ b ∧ b ≤ 11 ∧ 0 ≤ e ∧ e ≤ 11) ∨ x9 = 0 at hx9r
      rcases (by omega : x9 = 1 ∨ x9 = 0) with hb10 | hb10
      · skip
        refine pw_if E (pc' := 32) rfl (by decide) (by omega) (by omega) ?_ ?_
        · intro hc11
          change x9 = (0 : Int) at hc11
          exfalso; omega
        · intro hc12
          change ¬ (x9 = (0 : Int)) at hc12
          refine pw_ld E (pc' := 20) (st' := [pw_i wt, .ref 141]) rfl (fun _ => rfl) ?_
          refine pw_ld E (pc' := 21) (st' := [pw_i 0, pw_i wt, .ref 141]) rfl (fun _ => rfl) ?_
          refine pw_ld E (pc' := 22) (st' := [pw_i 4, pw_i 0, pw_i wt, .ref 141]) rfl (fun _ => rfl) ?_
          refine pw_call (m' := 202) (As := [pw_i wt, pw_i 0, pw_i 4]) (rest := [.ref 141]) (ls'' := [some (pw_i wt), some (pw_i 0), some (pw_i 4)]) (Nat.le_trans (by decide) hd) E rfl (fun _ => pw_iS rfl rfl rfl) (rfl : pm_ent 202 = some (3, 3, 12, 1, pmc_202)) rfl rfl (cm_202 (pw_dp hd (by decide)) I (wt) (by omega) (by omega) (0) (by omega) (by omega) (4) (by omega) (by omega)) ?_
          rintro u14 v13 ⟨rfl, x15, rfl, hx15a, hx15b, hx15r⟩
          refine ⟨_, rfl, ?_⟩
          show pw X d h 212 25 [some (.ref 141), some (pw_i bk), some (pw_i b), some (pw_i e), some (pw_i wt), none, none, none, none, none, none] [pw_i x15, .ref 141] _
          change (x15 = 1 ∧ 0 ≤ wt ∧ wt ≤ 4) ∨ (x15 = 0 ∧ ¬ (0 ≤ wt ∧ wt ≤ 4)) at hx15r
          rcases (by omega : x15 = 1 ∨ x15 = 0) with hb16 | hb16
          · skip
            refine pw_if E (pc' := 32) rfl (by decide) (by omega) (by omega) ?_ ?_
            · intro hc17
              change x15 = (0 : Int) at hc17
              exfalso; omega
            · intro hc18
              change ¬ (x15 = (0 : Int)) at hc18
              refine pw_ld E (pc' := 29) (st' := [pw_i 0, .ref 141]) rfl (fun _ => rfl) ?_
              refine pw_goto E (pc' := 33) rfl (by decide) ?_
              refine pw_putI I E (c := 125) (k := 0) (pc' := 36) rfl rfl rfl rfl (by omega) (by omega) (by omega) (by omega) rfl rfl ?_
              intro h19I h19E
              generalize h19w : pw_w h 125 0 (pw_i 0) = h19 at h19I h19E ⊢
              have h19F := E0.tr (h19E.wk (W' := [125]) (by first | rfl | simp))
              refine pw_ld E (pc' := 37) (st' := [.ref 141]) rfl (fun _ => rfl) ?_
              have he21 : pw_g h19 125 0 = 0 := by rw [← h19w]; exact pw_g_eq (c := 125) (k := 0) I rfl rfl (by omega) (by omega)
              refine pw_getI2 h19I E (c := 125) (k := 0) (pc' := 40) rfl rfl rfl rfl rfl rfl (fun hf20a hf20b => ?_)
              refine pw_if E (pc' := 45) rfl (by decide) (by omega) (by omega) ?_ ?_
              · intro hc22
                change pw_g h19 125 0 ≤ (0 : Int) at hc22
                refine pw_ld E (pc' := 46) (st' := [pw_i 0]) rfl (fun _ => rfl) ?_
                refine pw_ist E (pc' := 48) (ls' := [some (.ref 141), some (pw_i bk), some (pw_i b), some (pw_i e), some (pw_i wt), some (pw_i 0), none, none, none, none, none]) rfl rfl rfl rfl ?_
                refine pw_ld E (pc' := 49) (st' := [pw_i 0]) rfl (fun _ => rfl) ?_
                refine pw_ist E (pc' := 51) (ls' := [some (.ref 141), some (pw_i bk), some (pw_i b), some (pw_i e), some (pw_i wt), some (pw_i 0), some (pw_i 0), none, none, none, none]) rfl rfl rfl rfl ?_
                have L51 : ∀ (n51 : Nat) (k51_5 : Int) (k51_6 : Int) (k51_7 : Option Value) (k51_8 : Option Value) (k51_9 : Option Value) (k51_10 : Option Value), (-2147483648) ≤ k51_5 → k51_5 ≤ 2147483647 → 0 ≤ k51_6 → k51_6 ≤ 24 → (24 - k51_6).toNat = n51 → pw X d h19 212 51 [some (.ref 141), some (pw_i bk), some (pw_i b), some (pw_i e), some (pw_i wt), some (pw_i k51_5), some (pw_i k51_6), k51_7, k51_8, k51_9, k51_10] [] (fun h' v => pw_I h' ∧ pw_E [125] h h' ∧ ∃ a : Int, v = .inl (some (pw_i a)) ∧ (-2147483648) ≤ a ∧ a ≤ 2147483647) := by
                  intro n51
                  induction n51 using Nat.strongRecOn with
                  | ind n51 ih51 =>
                    intro k51_5 k51_6 k51_7 k51_8 k51_9 k51_10 k51_5a k51_5b k51_6a k51_6b hm51
                    refine pw_ld E (pc' := 53) (st' := [pw_i k51_6]) rfl (fun _ => rfl) ?_
                    refine pw_bip E (pc' := 55) rfl rfl (by decide) ?_
                    refine pw_if2 E (pc' := 275) rfl (by decide) (by omega) (by omega) (by decide) (by decide) ?_ ?_
                    · intro hc23
                      change (24 : Int) ≤ k51_6 at hc23
                      refine pw_ld E (pc' := 277) (st' := [pw_i k51_5]) rfl (fun _ => rfl) ?_
                      refine pw_iret E rfl ?_
                      exact ⟨h19I, h19F, ⟨_, rfl, by omega, by omega⟩⟩
                    · intro hc24
                      change ¬ ((24 : Int) ≤ k51_6) at hc24
                      refine pw_ld E (pc' := 59) (st' := [.ref 141]) rfl (fun _ => rfl) ?_
                      refine pw_getR (b := 147) h19I E (c := 125) (k := 10) (pc' := 62) rfl rfl rfl rfl rfl rfl rfl ?_
                      refine pw_ld E (pc' := 64) (st' := [pw_i k51_6, .ref 147]) rfl (fun _ => rfl) ?_
                      refine pw_ald2 h19I E (c := 131) (pc' := 65) rfl rfl rfl (by decide) rfl (by decide) (by omega) (by omega) rfl (fun hf25a hf25b => ?_)
                      refine pw_if E (pc' := 83) rfl (by decide) (by omega) (by omega) ?_ ?_
                      · intro hc26
                        change pw_g h19 131 (k51_6.toNat) = (0 : Int) at hc26
                        refine pw_ld E (pc' := 84) (st' := [pw_i 0]) rfl (fun _ => rfl) ?_
                        refine pw_ist E (pc' := 86) (ls' := [some (.ref 141), some (pw_i bk), some (pw_i b), some (pw_i e), some (pw_i wt), some (pw_i k51_5), some (pw_i k51_6), some (pw_i 0), k51_8, k51_9, k51_10]) rfl rfl rfl rfl ?_
                        refine pw_ld E (pc' := 88) (st' := [pw_i 0]) rfl (fun _ => rfl) ?_
                        refine pw_if E (pc' := 106) rfl (by decide) (by decide) (by decide) ?_ ?_
                        · intro hc27
                          change (0 : Int) = (0 : Int) at hc27
                          refine pw_ld E (pc' := 107) (st' := [pw_i 0]) rfl (fun _ => rfl) ?_
                          refine pw_ist E (pc' := 109) (ls' := [some (.ref 141), some (pw_i bk), some (pw_i b), some (pw_i e), some (pw_i wt), some (pw_i k51_5), some (pw_i k51_6), some (pw_i 0), some (pw_i 0), k51_9, k51_10]) rfl rfl rfl rfl ?_
                          refine pw_ld E (pc' := 110) (st' := [.ref 141]) rfl (fun _ => rfl) ?_
                          refine pw_getR (b := 154) h19I E (c := 125) (k := 18) (pc' := 113) rfl rfl rfl rfl rfl rfl rfl ?_
                          refine pw_bip E (pc' := 115) rfl rfl (by decide) ?_
                          refine pw_ld E (pc' := 117) (st' := [pw_i k51_6, pw_i 12, .ref 154]) rfl (fun _ => rfl) ?_
                          refine pw_mul E (pc' := 118) rfl rfl ?_
                          refine pw_ld E (pc' := 119) (st' := [pw_i b, pw_i (12 * k51_6), .ref 154]) rfl (fun _ => rfl) ?_
                          refine pw_add E (pc' := 120) rfl rfl ?_
                          refine pw_ald2 h19I E (c := 138) (pc' := 121) rfl rfl rfl (by decide) rfl (by decide) (by omega) (by omega) rfl (fun hf28a hf28b => ?_)
                          refine pw_ld E (pc' := 122) (st' := [pw_i 2, pw_i (pw_g h19 138 (((12 * k51_6) + b).toNat))]) rfl (fun _ => rfl) ?_
                          refine pw_if2 E (pc' := 129) rfl (by decide) (by omega) (by omega) (by decide) (by decide) ?_ ?_
                          · intro hc29
                            change pw_g h19 138 (((12 * k51_6) + b).toNat) ≠ (2 : Int) at hc29
                            refine pw_ld E (pc' := 130) (st' := [pw_i 0]) rfl (fun _ => rfl) ?_
                            refine pw_ist E (pc' := 132) (ls' := [some (.ref 141), some (pw_i bk), some (pw_i b), some (pw_i e), some (pw_i wt), some (pw_i k51_5), some (pw_i k51_6), some (pw_i 0), some (pw_i 0), some (pw_i 0), k51_10]) rfl rfl rfl rfl ?_
                            refine pw_ld E (pc' := 133) (st' := [.ref 141]) rfl (fun _ => rfl) ?_
                            refine pw_getR (b := 154) h19I E (c := 125) (k := 18) (pc' := 136) rfl rfl rfl rfl rfl rfl rfl ?_
                            refine pw_bip E (pc' := 138) rfl rfl (by decide) ?_
                            refine pw_ld E (pc' := 140) (st' := [pw_i k51_6, pw_i 12, .ref 154]) rfl (fun _ => rfl) ?_
                            refine pw_mul E (pc' := 141) rfl rfl ?_
                            refine pw_ld E (pc' := 142) (st' := [pw_i e, pw_i (12 * k51_6), .ref 154]) rfl (fun _ => rfl) ?_
                            refine pw_add E (pc' := 143) rfl rfl ?_
                            refine pw_ald2 h19I E (c := 138) (pc' := 144) rfl rfl rfl (by decide) rfl (by decide) (by omega) (by omega) rfl (fun hf30a hf30b => ?_)
                            refine pw_ld E (pc' := 145) (st' := [pw_i 2, pw_i (pw_g h19 138 (((12 * k51_6) + e).toNat))]) rfl (fun _ => rfl) ?_
                            refine pw_if2 E (pc' := 152) rfl (by decide) (by omega) (by omega) (by decide) (by decide) ?_ ?_
                            · intro hc31
                              change pw_g h19 138 (((12 * k51_6) + e).toNat) ≠ (2 : Int) at hc31
                              refine pw_ld E (pc' := 153) (st' := [pw_i 0]) rfl (fun _ => rfl) ?_
                              refine pw_ist E (pc' := 155) (ls' := [some (.ref 141), some (pw_i bk), some (pw_i b), some (pw_i e), some (pw_i wt), some (pw_i k51_5), some (pw_i k51_6), some (pw_i 0), some (pw_i 0), some (pw_i 0), some (pw_i 0)]) rfl rfl rfl rfl ?_
                              refine pw_ld E (pc' := 157) (st' := [pw_i wt]) rfl (fun _ => rfl) ?_
                              refine pw_ld E (pc' := 158) (st' := [pw_i 4, pw_i wt]) rfl (fun _ => rfl) ?_
                              refine pw_if2 E (pc' := 186) rfl (by decide) (by omega) (by omega) (by decide) (by decide) ?_ ?_
                              · intro hc32
                                change wt ≠ (4 : Int) at hc32
                                refine pw_ld E (pc' := 188) (st' := [pw_i wt]) rfl (fun _ => rfl) ?_
                                refine pw_ld E (pc' := 189) (st' := [pw_i 2, pw_i wt]) rfl (fun _ => rfl) ?_
                                refine pw_if2 E (pc' := 225) rfl (by decide) (by omega) (by omega) (by decide) (by decide) ?_ ?_
                                · intro hc33
                                  change (2 : Int) ≤ wt at hc33
                                  refine pw_ld E (pc' := 227) (st' := [pw_i k51_5]) rfl (fun _ => rfl) ?_
                                  refine pw_ld E (pc' := 229) (st' := [pw_i 0, pw_i k51_5]) rfl (fun _ => rfl) ?_
                                  refine pw_if E (pc' := 265) rfl (by decide) (by decide) (by decide) ?_ ?_
                                  · intro hc34
                                    change (0 : Int) = (0 : Int) at hc34
                                    refine pw_ld E (pc' := 266) (st' := [pw_i 0, pw_i k51_5]) rfl (fun _ => rfl) ?_
                                    refine pw_add E (pc' := 267) rfl rfl ?_
                                    refine pw_ist E (pc' := 269) (ls' := [some (.ref 141), some (pw_i bk), some (pw_i b), some (pw_i e), some (pw_i wt), some (pw_i (k51_5 + 0)), some (pw_i k51_6), some (pw_i 0), some (pw_i 0), some (pw_i 0), some (pw_i 0)]) rfl rfl rfl rfl ?_
                                    refine pw_inc E (pc' := 272) (ls' := [some (.ref 141), some (pw_i bk), some (pw_i b), some (pw_i e), some (pw_i wt), some (pw_i (k51_5 + 0)), some (pw_i (k51_6 + 1)), some (pw_i 0), some (pw_i 0), some (pw_i 0), some (pw_i 0)]) rfl rfl rfl rfl ?_
                                    refine pw_goto E (pc' := 51) rfl (by decide) ?_
                                    exact ih51 _ (by omega) (k51_5 + 0) (k51_6 + 1) (some (pw_i 0)) (some (pw_i 0)) (some (pw_i 0)) (some (pw_i 0))  (by omega) (by omega) (by omega) (by omega)  rfl
                                  · intro hc35
                                    change ¬ ((0 : Int) = (0 : Int)) at hc35
                                    exfalso; omega
                                · intro hc36
                                  change ¬ ((2 : Int) ≤ wt) at hc36
                                  refine pw_ld E (pc' := 194) (st' := [pw_i k51_5]) rfl (fun _ => rfl) ?_
                                  refine pw_ld E (pc' := 196) (st' := [pw_i 0, pw_i k51_5]) rfl (fun _ => rfl) ?_
                                  refine pw_if E (pc' := 218) rfl (by decide) (by decide) (by decide) ?_ ?_
                                  · intro hc37
                                    change (0 : Int) = (0 : Int) at hc37
                                    refine pw_ld E (pc' := 219) (st' := [pw_i 0, pw_i k51_5]) rfl (fun _ => rfl) ?_
                                    refine pw_add E (pc' := 220) rfl rfl ?_
                                    refine pw_ist E (pc' := 222) (ls' := [some (.ref 141), some (pw_i bk), some (pw_i b), some (pw_i e), some (pw_i wt), some (pw_i (k51_5 + 0)), some (pw_i k51_6), some (pw_i 0), some (pw_i 0), some (pw_i 0), some (pw_i 0)]) rfl rfl rfl rfl ?_
                                    refine pw_goto E (pc' := 269) rfl (by decide) ?_
                                    refine pw_inc E (pc' := 272) (ls' := [some (.ref 141), some (pw_i bk), some (pw_i b), some (pw_i e), some (pw_i wt), some (pw_i (k51_5 + 0)), some (pw_i (k51_6 + 1)), some (pw_i 0), some (pw_i 0), some (pw_i 0), some (pw_i 0)]) rfl rfl rfl rfl ?_
                                    refine pw_goto E (pc' := 51) rfl (by decide) ?_
                                    exact ih51 _ (by omega) (k51_5 + 0) (k51_6 + 1) (some (pw_i 0)) (some (pw_i 0)) (some (pw_i 0)) (some (pw_i 0))  (by omega) (by omega) (by omega) (by omega)  rfl
                                  · intro hc38
                                    change ¬ ((0 : Int) = (0 : Int)) at hc38
                                    exfalso; omega
                              · intro hc39
                                change ¬ (wt ≠ (4 : Int)) at hc39
                                refine pw_ld E (pc' := 163) (st' := [pw_i k51_5]) rfl (fun _ => rfl) ?_
                                refine pw_ld E (pc' := 165) (st' := [pw_i 0, pw_i k51_5]) rfl (fun _ => rfl) ?_
                                refine pw_if E (pc' := 179) rfl (by decide) (by decide) (by decide) ?_ ?_
                                · intro hc40
                                  change (0 : Int) = (0 : Int) at hc40
                                  refine pw_ld E (pc' := 180) (st' := [pw_i 0, pw_i k51_5]) rfl (fun _ => rfl) ?_
                                  refine pw_add E (pc' := 181) rfl rfl ?_
                                  refine pw_ist E (pc' := 183) (ls' := [some (.ref 141), some (pw_i bk), some (pw_i b), some (pw_i e), some (pw_i wt), some (pw_i (k51_5 + 0)), some (pw_i k51_6), some (pw_i 0), some (pw_i 0), some (pw_i 0), some (pw_i 0)]) rfl rfl rfl rfl ?_
                                  refine pw_goto E (pc' := 269) rfl (by decide) ?_
                                  refine pw_inc E (pc' := 272) (ls' := [some (.ref 141), some (pw_i bk), some (pw_i b), some (pw_i e), some (pw_i wt), some (pw_i (k51_5 + 0)), some (pw_i (k51_6 + 1)), some (pw_i 0), some (pw_i 0), some (pw_i 0), some (pw_i 0)]) rfl rfl rfl rfl ?_
                                  refine pw_goto E (pc' := 51) rfl (by decide) ?_
                                  exact ih51 _ (by omega) (k51_5 + 0) (k51_6 + 1) (some (pw_i 0)) (some (pw_i 0)) (some (pw_i 0)) (some (pw_i 0))  (by omega) (by omega) (by omega) (by omega)  rfl
                                · intro hc41
                                  change ¬ ((0 : Int) = (0 : Int)) at hc41
                                  exfalso; omega
                            · intro hc42
                              change ¬ (pw_g h19 138 (((12 * k51_6) + e).toNat) ≠ (2 : Int)) at hc42
                              refine pw_ld E (pc' := 149) (st' := [pw_i 1]) rfl (fun _ => rfl) ?_
                              refine pw_goto E (pc' := 153) rfl (by decide) ?_
                              refine pw_ist E (pc' := 155) (ls' := [some (.ref 141), some (pw_i bk), some (pw_i b), some (pw_i e), some (pw_i wt), some (pw_i k51_5), some (pw_i k51_6), some (pw_i 0), some (pw_i 0), some (pw_i 0), some (pw_i 1)]) rfl rfl rfl rfl ?_
                              refine pw_ld E (pc' := 157) (st' := [pw_i wt]) rfl (fun _ => rfl) ?_
                              refine pw_ld E (pc' := 158) (st' := [pw_i 4, pw_i wt]) rfl (fun _ => rfl) ?_
                              refine pw_if2 E (pc' := 186) rfl (by decide) (by omega) (by omega) (by decide) (by decide) ?_ ?_
                              · intro hc43
                                change wt ≠ (4 : Int) at hc43
                                refine pw_ld E (pc' := 188) (st' := [pw_i wt]) rfl (fun _ => rfl) ?_
                                refine pw_ld E (pc' := 189) (st' := [pw_i 2, pw_i wt]) rfl (fun _ => rfl) ?_
                                refine pw_if2 E (pc' := 225) rfl (by decide) (by omega) (by omega) (by decide) (by decide) ?_ ?_
                                · intro hc44
                                  change (2 : Int) ≤ wt at hc44
                                  refine pw_ld E (pc' := 227) (st' := [pw_i k51_5]) rfl (fun _ => rfl) ?_
                                  refine pw_ld E (pc' := 229) (st' := [pw_i 0, pw_i k51_5]) rfl (fun _ => rfl) ?_
                                  refine pw_if E (pc' := 265) rfl (by decide) (by decide) (by decide) ?_ ?_
                                  · intro hc45
                                    change (0 : Int) = (0 : Int) at hc45
                                    refine pw_ld E (pc' := 266) (st' := [pw_i 0, pw_i k51_5]) rfl (fun _ => rfl) ?_
                                    refine pw_add E (pc' := 267) rfl rfl ?_
                                    refine pw_ist E (pc' := 269) (ls' := [some (.ref 141), some (pw_i bk), some (pw_i b), some (pw_i e), some (pw_i wt), some (pw_i (k51_5 + 0)), some (pw_i k51_6), some (pw_i 0), some (pw_i 0), some (pw_i 0), some (pw_i 1)]) rfl rfl rfl rfl ?_
                                    refine pw_inc E (pc' := 272) (ls' := [some (.ref 141), some (pw_i bk), some (pw_i b), some (pw_i e), some (pw_i wt), some (pw_i (k51_5 + 0)), some (pw_i (k51_6 + 1)), some (pw_i 0), some (pw_i 0), some (pw_i 0), some (pw_i 1)]) rfl rfl rfl rfl ?_
                                    refine pw_goto E (pc' := 51) rfl (by decide) ?_
                                    exact ih51 _ (by omega) (k51_5 + 0) (k51_6 + 1) (some (pw_i 0)) (some (pw_i 0)) (some (pw_i 0)) (some (pw_i 1))  (by omega) (by omega) (by omega) (by omega)  rfl
                                  · intro hc46
                                    change ¬ ((0 : Int) = (0 : Int)) at hc46
                                    exfalso; omega
                                · intro hc47
                                  change ¬ ((2 : Int) ≤ wt) at hc47
                                  refine pw_ld E (pc' := 194) (st' := [pw_i k51_5]) rfl (fun _ => rfl) ?_
                                  refine pw_ld E (pc' := 196) (st' := [pw_i 0, pw_i k51_5]) rfl (fun _ => rfl) ?_
                                  refine pw_if E (pc' := 218) rfl (by decide) (by decide) (by decide) ?_ ?_
                                  · intro hc48
                                    change (0 : Int) = (0 : Int) at hc48
                                    refine pw_ld E (pc' := 219) (st' := [pw_i 0, pw_i k51_5]) rfl (fun _ => rfl) ?_
                                    refine pw_add E (pc' := 220) rfl rfl ?_
                                    refine pw_ist E (pc' := 222) (ls' := [some (.ref 141), some (pw_i bk), some (pw_i b), some (pw_i e), some (pw_i wt), some (pw_i (k51_5 + 0)), some (pw_i k51_6), some (pw_i 0), some (pw_i 0), some (pw_i 0), some (pw_i 1)]) rfl rfl rfl rfl ?_
                                    refine pw_goto E (pc' := 269) rfl (by decide) ?_
                                    refine pw_inc E (pc' := 272) (ls' := [some (.ref 141), some (pw_i bk), some (pw_i b), some (pw_i e), some (pw_i wt), some (pw_i (k51_5 + 0)), some (pw_i (k51_6 + 1)), some (pw_i 0), some (pw_i 0), some (pw_i 0), some (pw_i 1)]) rfl rfl rfl rfl ?_
                                    refine pw_goto E (pc' := 51) rfl (by decide) ?_
                                    exact ih51 _ (by omega) (k51_5 + 0) (k51_6 + 1) (some (pw_i 0)) (some (pw_i 0)) (some (pw_i 0)) (some (pw_i 1))  (by omega) (by omega) (by omega) (by omega)  rfl
                                  · intro hc49
                                    change ¬ ((0 : Int) = (0 : Int)) at hc49
                                    exfalso; omega
                              · intro hc50
                                change ¬ (wt ≠ (4 : Int)) at hc50
                                refine pw_ld E (pc' := 163) (st' := [pw_i k51_5]) rfl (fun _ => rfl) ?_
                                refine pw_ld E (pc' := 165) (st' := [pw_i 0, pw_i k51_5]) rfl (fun _ => rfl) ?_
                                refine pw_if E (pc' := 179) rfl (by decide) (by decide) (by decide) ?_ ?_
                                · intro hc51
                                  change (0 : Int) = (0 : Int) at hc51
                                  refine pw_ld E (pc' := 180) (st' := [pw_i 0, pw_i k51_5]) rfl (fun _ => rfl) ?_
                                  refine pw_add E (pc' := 181) rfl rfl ?_
                                  refine pw_ist E (pc' := 183) (ls' := [some (.ref 141), some (pw_i bk), some (pw_i b), some (pw_i e), some (pw_i wt), some (pw_i (k51_5 + 0)), some (pw_i k51_6), some (pw_i 0), some (pw_i 0), some (pw_i 0), some (pw_i 1)]) rfl rfl rfl rfl ?_
                                  refine pw_goto E (pc' := 269) rfl (by decide) ?_
                                  refine pw_inc E (pc' := 272) (ls' := [some (.ref 141), some (pw_i bk), some (pw_i b), some (pw_i e), some (pw_i wt), some (pw_i (k51_5 + 0)), some (pw_i (k51_6 + 1)), some (pw_i 0), some (pw_i 0), some (pw_i 0), some (pw_i 1)]) rfl rfl rfl rfl ?_
                                  refine pw_goto E (pc' := 51) rfl (by decide) ?_
                                  exact ih51 _ (by omega) (k51_5 + 0) (k51_6 + 1) (some (pw_i 0)) (some (pw_i 0)) (some (pw_i 0)) (some (pw_i 1))  (by omega) (by omega) (by omega) (by omega)  rfl
                                · intro hc52
                                  change ¬ ((0 : Int) = (0 : Int)) at hc52
                                  exfalso; omega
                          · intro hc53
                            change ¬ (pw_g h19 138 (((12 * k51_6) + b).toNat) ≠ (2 : Int)) at hc53
                            refine pw_ld E (pc' := 126) (st' := [pw_i 1]) rfl (fun _ => rfl) ?_
                            refine pw_goto E (pc' := 130) rfl (by decide) ?_
                            refine pw_ist E (pc' := 132) (ls' := [some (.ref 141), some (pw_i bk), some (pw_i b), some (pw_i e), some (pw_i wt), some (pw_i k51_5), some (pw_i k51_6), some (pw_i 0), some (pw_i 0), some (pw_i 1), k51_10]) rfl rfl rfl rfl ?_
                            refine pw_ld E (pc' := 133) (st' := [.ref 141]) rfl (fun _ => rfl) ?_
                            refine pw_getR (b := 154) h19I E (c := 125) (k := 18) (pc' := 136) rfl rfl rfl rfl rfl rfl rfl ?_
                            refine pw_bip E (pc' := 138) rfl rfl (by decide) ?_
                            refine pw_ld E (pc' := 140) (st' := [pw_i k51_6, pw_i 12, .ref 154]) rfl (fun _ => rfl) ?_
                            refine pw_mul E (pc' := 141) rfl rfl ?_
                            refine pw_ld E (pc' := 142) (st' := [pw_i e, pw_i (12 * k51_6), .ref 154]) rfl (fun _ => rfl) ?_
                            refine pw_add E (pc' := 143) rfl rfl ?_
                            refine pw_ald2 h19I E (c := 138) (pc' := 144) rfl rfl rfl (by decide) rfl (by decide) (by omega) (by omega) rfl (fun hf54a hf54b => ?_)
                            refine pw_ld E (pc' := 145) (st' := [pw_i 2, pw_i (pw_g h19 138 (((12 * k51_6) + e).toNat))]) rfl (fun _ => rfl) ?_
                            refine pw_if2 E (pc' := 152) rfl (by decide) (by omega) (by omega) (by decide) (by decide) ?_ ?_
                            · intro hc55
                              change pw_g h19 138 (((12 * k51_6) + e).toNat) ≠ (2 : Int) at hc55
                              refine pw_ld E (pc' := 153) (st' := [pw_i 0]) rfl (fun _ => rfl) ?_
                              refine pw_ist E (pc' := 155) (ls' := [some (.ref 141), some (pw_i bk), some (pw_i b), some (pw_i e), some (pw_i wt), some (pw_i k51_5), some (pw_i k51_6), some (pw_i 0), some (pw_i 0), some (pw_i 1), some (pw_i 0)]) rfl rfl rfl rfl ?_
                              refine pw_ld E (pc' := 157) (st' := [pw_i wt]) rfl (fun _ => rfl) ?_
                              refine pw_ld E (pc' := 158) (st' := [pw_i 4, pw_i wt]) rfl (fun _ => rfl) ?_
                              refine pw_if2 E (pc' := 186) rfl (by decide) (by omega) (by omega) (by decide) (by decide) ?_ ?_
                              · intro hc56
                                change wt ≠ (4 : Int) at hc56
                                refine pw_ld E (pc' := 188) (st' := [pw_i wt]) rfl (fun _ => rfl) ?_
                                refine pw_ld E (pc' := 189) (st' := [pw_i 2, pw_i wt]) rfl (fun _ => rfl) ?_
                                refine pw_if2 E (pc' := 225) rfl (by decide) (by omega) (by omega) (by decide) (by decide) ?_ ?_
                                · intro hc57
                                  change (2 : Int) ≤ wt at hc57
                                  refine pw_ld E (pc' := 227) (st' := [pw_i k51_5]) rfl (fun _ => rfl) ?_
                                  refine pw_ld E (pc' := 229) (st' := [pw_i 0, pw_i k51_5]) rfl (fun _ => rfl) ?_
                                  refine pw_if E (pc' := 265) rfl (by decide) (by decide) (by decide) ?_ ?_
                                  · intro hc58
                                    change (0 : Int) = (0 : Int) at hc58
                                    refine pw_ld E (pc' := 266) (st' := [pw_i 0, pw_i k51_5]) rfl (fun _ => rfl) ?_
                                    refine pw_add E (pc' := 267) rfl rfl ?_
                                    refine pw_ist E (pc' := 269) (ls' := [some (.ref 141), some (pw_i bk), some (pw_i b), some (pw_i e), some (pw_i wt), some (pw_i (k51_5 + 0)), some (pw_i k51_6), some (pw_i 0), some (pw_i 0), some (pw_i 1), some (pw_i 0)]) rfl rfl rfl rfl ?_
                                    refine pw_inc E (pc' := 272) (ls' := [some (.ref 141), some (pw_i bk), some (pw_i b), some (pw_i e), some (pw_i wt), some (pw_i (k51_5 + 0)), some (pw_i (k51_6 + 1)), some (pw_i 0), some (pw_i 0), some (pw_i 1), some (pw_i 0)]) rfl rfl rfl rfl ?_
                                    refine pw_goto E (pc' := 51) rfl (by decide) ?_
                                    exact ih51 _ (by omega) (k51_5 + 0) (k51_6 + 1) (some (pw_i 0)) (some (pw_i 0)) (some (pw_i 1)) (some (pw_i 0))  (by omega) (by omega) (by omega) (by omega)  rfl
                                  · intro hc59
                                    change ¬ ((0 : Int) = (0 : Int)) at hc59
                                    exfalso; omega
                                · intro hc60
                                  change ¬ ((2 : Int) ≤ wt) at hc60
                                  refine pw_ld E (pc' := 194) (st' := [pw_i k51_5]) rfl (fun _ => rfl) ?_
                                  refine pw_ld E (pc' := 196) (st' := [pw_i 0, pw_i k51_5]) rfl (fun _ => rfl) ?_
                                  refine pw_if E (pc' := 218) rfl (by decide) (by decide) (by decide) ?_ ?_
                                  · intro hc61
                                    change (0 : Int) = (0 : Int) at hc61
                                    refine pw_ld E (pc' := 219) (st' := [pw_i 0, pw_i k51_5]) rfl (fun _ => rfl) ?_
                                    refine pw_add E (pc' := 220) rfl rfl ?_
                                    refine pw_ist E (pc' := 222) (ls' := [some (.ref 141), some (pw_i bk), some (pw_i b), some (pw_i e), some (pw_i wt), some (pw_i (k51_5 + 0)), some (pw_i k51_6), some (pw_i 0), some (pw_i 0), some (pw_i 1), some (pw_i 0)]) rfl rfl rfl rfl ?_
                                    refine pw_goto E (pc' := 269) rfl (by decide) ?_
                                    refine pw_inc E (pc' := 272) (ls' := [some (.ref 141), some (pw_i bk), some (pw_i b), some (pw_i e), some (pw_i wt), some (pw_i (k51_5 + 0)), some (pw_i (k51_6 + 1)), some (pw_i 0), some (pw_i 0), some (pw_i 1), some (pw_i 0)]) rfl rfl rfl rfl ?_
                                    refine pw_goto E (pc' := 51) rfl (by decide) ?_
                                    exact ih51 _ (by omega) (k51_5 + 0) (k51_6 + 1) (some (pw_i 0)) (some (pw_i 0)) (some (pw_i 1)) (some (pw_i 0))  (by omega) (by omega) (by omega) (by omega)  rfl
                                  · intro hc62
                                    change ¬ ((0 : Int) = (0 : Int)) at hc62
                                    exfalso; omega
                              · intro hc63
                                change ¬ (wt ≠ (4 : Int)) at hc63
                                refine pw_ld E (pc' := 163) (st' := [pw_i k51_5]) rfl (fun _ => rfl) ?_
                                refine pw_ld E (pc' := 165) (st' := [pw_i 0, pw_i k51_5]) rfl (fun _ => rfl) ?_
                                refine pw_if E (pc' := 179) rfl (by decide) (by decide) (by decide) ?_ ?_
                                · intro hc64
                                  change (0 : Int) = (0 : Int) at hc64
                                  refine pw_ld E (pc' := 180) (st' := [pw_i 0, pw_i k51_5]) rfl (fun _ => rfl) ?_
                                  refine pw_add E (pc' := 181) rfl rfl ?_
                                  refine pw_ist E (pc' := 183) (ls' := [some (.ref 141), some (pw_i bk), some (pw_i b), some (pw_i e), some (pw_i wt), some (pw_i (k51_5 + 0)), some (pw_i k51_6), some (pw_i 0), some (pw_i 0), some (pw_i 1), some (pw_i 0)]) rfl rfl rfl rfl ?_
                                  refine pw_goto E (pc' := 269) rfl (by decide) ?_
                                  refine pw_inc E (pc' := 272) (ls' := [some (.ref 141), some (pw_i bk), some (pw_i b), some (pw_i e), some (pw_i wt), some (pw_i (k51_5 + 0)), some (pw_i (k51_6 + 1)), some (pw_i 0), some (pw_i 0), some (pw_i 1), some (pw_i 0)]) rfl rfl rfl rfl ?_
                                  refine pw_goto E (pc' := 51) rfl (by decide) ?_
                                  exact ih51 _ (by omega) (k51_5 + 0) (k51_6 + 1) (some (pw_i 0)) (some (pw_i 0)) (some (pw_i 1)) (some (pw_i 0))  (by omega) (by omega) (by omega) (by omega)  rfl
                                · intro hc65
                                  change ¬ ((0 : Int) = (0 : Int)) at hc65
                                  exfalso; omega
                            · intro hc66
                              change ¬ (pw_g h19 138 (((12 * k51_6) + e).toNat) ≠ (2 : Int)) at hc66
                              refine pw_ld E (pc' := 149) (st' := [pw_i 1]) rfl (fun _ => rfl) ?_
                              refine pw_goto E (pc' := 153) rfl (by decide) ?_
                              refine pw_ist E (pc' := 155) (ls' := [some (.ref 141), some (pw_i bk), some (pw_i b), some (pw_i e), some (pw_i wt), some (pw_i k51_5), some (pw_i k51_6), some (pw_i 0), some (pw_i 0), some (pw_i 1), some (pw_i 1)]) rfl rfl rfl rfl ?_
                              refine pw_ld E (pc' := 157) (st' := [pw_i wt]) rfl (fun _ => rfl) ?_
                              refine pw_ld E (pc' := 158) (st' := [pw_i 4, pw_i wt]) rfl (fun _ => rfl) ?_
                              refine pw_if2 E (pc' := 186) rfl (by decide) (by omega) (by omega) (by decide) (by decide) ?_ ?_
                              · intro hc67
                                change wt ≠ (4 : Int) at hc67
                                refine pw_ld E (pc' := 188) (st' := [pw_i wt]) rfl (fun _ => rfl) ?_
                                refine pw_ld E (pc' := 189) (st' := [pw_i 2, pw_i wt]) rfl (fun _ => rfl) ?_
                                refine pw_if2 E (pc' := 225) rfl (by decide) (by omega) (by omega) (by decide) (by decide) ?_ ?_
                                · intro hc68
                                  change (2 : Int) ≤ wt at hc68
                                  refine pw_ld E (pc' := 227) (st' := [pw_i k51_5]) rfl (fun _ => rfl) ?_
                                  refine pw_ld E (pc' := 229) (st' := [pw_i 0, pw_i k51_5]) rfl (fun _ => rfl) ?_
                                  refine pw_if E (pc' := 265) rfl (by decide) (by decide) (by decide) ?_ ?_
                                  · intro hc69
                                    change (0 : Int) = (0 : Int) at hc69
                                    refine pw_ld E (pc' := 266) (st' := [pw_i 0, pw_i k51_5]) rfl (fun _ => rfl) ?_
                                    refine pw_add E (pc' := 267) rfl rfl ?_
                                    refine pw_ist E (pc' := 269) (ls' := [some (.ref 141), some (pw_i bk), some (pw_i b), some (pw_i e), some (pw_i wt), some (pw_i (k51_5 + 0)), some (pw_i k51_6), some (pw_i 0), some (pw_i 0), some (pw_i 1), some (pw_i 1)]) rfl rfl rfl rfl ?_
                                    refine pw_inc E (pc' := 272) (ls' := [some (.ref 141), some (pw_i bk), some (pw_i b), some (pw_i e), some (pw_i wt), some (pw_i (k51_5 + 0)), some (pw_i (k51_6 + 1)), some (pw_i 0), some (pw_i 0), some (pw_i 1), some (pw_i 1)]) rfl rfl rfl rfl ?_
                                    refine pw_goto E (pc' := 51) rfl (by decide) ?_
                                    exact ih51 _ (by omega) (k51_5 + 0) (k51_6 + 1) (some (pw_i 0)) (some (pw_i 0)) (some (pw_i 1)) (some (pw_i 1))  (by omega) (by omega) (by omega) (by omega)  rfl
                                  · intro hc70
                                    change ¬ ((0 : Int) = (0 : Int)) at hc70
                                    exfalso; omega
                                · intro hc71
                                  change ¬ ((2 : Int) ≤ wt) at hc71
                                  refine pw_ld E (pc' := 194) (st' := [pw_i k51_5]) rfl (fun _ => rfl) ?_
                                  refine pw_ld E (pc' := 196) (st' := [pw_i 0, pw_i k51_5]) rfl (fun _ => rfl) ?_
                                  refine pw_if E (pc' := 218) rfl (by decide) (by decide) (by decide) ?_ ?_
                                  · intro hc72
                                    change (0 : Int) = (0 : Int) at hc72
                                    refine pw_ld E (pc' := 219) (st' := [pw_i 0, pw_i k51_5]) rfl (fun _ => rfl) ?_
                                    refine pw_add E (pc' := 220) rfl rfl ?_
                                    refine pw_ist E (pc' := 222) (ls' := [some (.ref 141), some (pw_i bk), some (pw_i b), some (pw_i e), some (pw_i wt), some (pw_i (k51_5 + 0)), some (pw_i k51_6), some (pw_i 0), some (pw_i 0), some (pw_i 1), some (pw_i 1)]) rfl rfl rfl rfl ?_
                                    refine pw_goto E (pc' := 269) rfl (by decide) ?_
                                    refine pw_inc E (pc' := 272) (ls' := [some (.ref 141), some (pw_i bk), some (pw_i b), some (pw_i e), some (pw_i wt), some (pw_i (k51_5 + 0)), some (pw_i (k51_6 + 1)), some (pw_i 0), some (pw_i 0), some (pw_i 1), some (pw_i 1)]) rfl rfl rfl rfl ?_
                                    refine pw_goto E (pc' := 51) rfl (by decide) ?_
                                    exact ih51 _ (by omega) (k51_5 + 0) (k51_6 + 1) (some (pw_i 0)) (some (pw_i 0)) (some (pw_i 1)) (some (pw_i 1))  (by omega) (by omega) (by omega) (by omega)  rfl
                                  · intro hc73
                                    change ¬ ((0 : Int) = (0 : Int)) at hc73
                                    exfalso; omega
                              · intro hc74
                                change ¬ (wt ≠ (4 : Int)) at hc74
                                refine pw_ld E (pc' := 163) (st' := [pw_i k51_5]) rfl (fun _ => rfl) ?_
                                refine pw_ld E (pc' := 165) (st' := [pw_i 0, pw_i k51_5]) rfl (fun _ => rfl) ?_
                                refine pw_if E (pc' := 179) rfl (by decide) (by decide) (by decide) ?_ ?_
                                · intro hc75
                                  change (0 : Int) = (0 : Int) at hc75
                                  refine pw_ld E (pc' := 180) (st' := [pw_i 0, pw_i k51_5]) rfl (fun _ => rfl) ?_
                                  refine pw_add E (pc' := 181) rfl rfl ?_
                                  refine pw_ist E (pc' := 183) (ls' := [some (.ref 141), some (pw_i bk), some (pw_i b), some (pw_i e), some (pw_i wt), some (pw_i (k51_5 + 0)), some (pw_i k51_6), some (pw_i 0), some (pw_i 0), some (pw_i 1), some (pw_i 1)]) rfl rfl rfl rfl ?_
                                  refine pw_goto E (pc' := 269) rfl (by decide) ?_
                                  refine pw_inc E (pc' := 272) (ls' := [some (.ref 141), some (pw_i bk), some (pw_i b), some (pw_i e), some (pw_i wt), some (pw_i (k51_5 + 0)), some (pw_i (k51_6 + 1)), some (pw_i 0), some (pw_i 0), some (pw_i 1), some (pw_i 1)]) rfl rfl rfl rfl ?_
                                  refine pw_goto E (pc' := 51) rfl (by decide) ?_
                                  exact ih51 _ (by omega) (k51_5 + 0) (k51_6 + 1) (some (pw_i 0)) (some (pw_i 0)) (some (pw_i 1)) (some (pw_i 1))  (by omega) (by omega) (by omega) (by omega)  rfl
                                · intro hc76
                                  change ¬ ((0 : Int) = (0 : Int)) at hc76
                                  exfalso; omega
                        · intro hc77
                          change ¬ ((0 : Int) = (0 : Int)) at hc77
                          exfalso; omega
                      · intro hc78
                        change ¬ (pw_g h19 131 (k51_6.toNat) = (0 : Int)) at hc78
                        refine pw_ld E (pc' := 69) (st' := [.ref 141]) rfl (fun _ => rfl) ?_
                        refine pw_getR (b := 148) h19I E (c := 125) (k := 11) (pc' := 72) rfl rfl rfl rfl rfl rfl rfl ?_
                        refine pw_ld E (pc' := 74) (st' := [pw_i k51_6, .ref 148]) rfl (fun _ => rfl) ?_
                        refine pw_ald2 h19I E (c := 132) (pc' := 75) rfl rfl rfl (by decide) rfl (by decide) (by omega) (by omega) rfl (fun hf79a hf79b => ?_)
                        refine pw_ld E (pc' := 76) (st' := [pw_i bk, pw_i (pw_g h19 132 (k51_6.toNat))]) rfl (fun _ => rfl) ?_
                        refine pw_if2 E (pc' := 83) rfl (by decide) (by omega) (by omega) (by omega) (by omega) ?_ ?_
                        · intro hc80
                          change pw_g h19 132 (k51_6.toNat) ≠ bk at hc80
                          refine pw_ld E (pc' := 84) (st' := [pw_i 0]) rfl (fun _ => rfl) ?_
                          refine pw_ist E (pc' := 86) (ls' := [some (.ref 141), some (pw_i bk), some (pw_i b), some (pw_i e), some (pw_i wt), some (pw_i k51_5), some (pw_i k51_6), some (pw_i 0), k51_8, k51_9, k51_10]) rfl rfl rfl rfl ?_
                          refine pw_ld E (pc' := 88) (st' := [pw_i 0]) rfl (fun _ => rfl) ?_
                          refine pw_if E (pc' := 106) rfl (by decide) (by decide) (by decide) ?_ ?_
                          · intro hc81
                            change (0 : Int) = (0 : Int) at hc81
                            refine pw_ld E (pc' := 107) (st' := [pw_i 0]) rfl (fun _ => rfl) ?_
                            refine pw_ist E (pc' := 109) (ls' := [some (.ref 141), some (pw_i bk), some (pw_i b), some (pw_i e), some (pw_i wt), some (pw_i k51_5), some (pw_i k51_6), some (pw_i 0), some (pw_i 0), k51_9, k51_10]) rfl rfl rfl rfl ?_
                            refine pw_ld E (pc' := 110) (st' := [.ref 141]) rfl (fun _ => rfl) ?_
                            refine pw_getR (b := 154) h19I E (c := 125) (k := 18) (pc' := 113) rfl rfl rfl rfl rfl rfl rfl ?_
                            refine pw_bip E (pc' := 115) rfl rfl (by decide) ?_
                            refine pw_ld E (pc' := 117) (st' := [pw_i k51_6, pw_i 12, .ref 154]) rfl (fun _ => rfl) ?_
                            refine pw_mul E (pc' := 118) rfl rfl ?_
                            refine pw_ld E (pc' := 119) (st' := [pw_i b, pw_i (12 * k51_6), .ref 154]) rfl (fun _ => rfl) ?_
                            refine pw_add E (pc' := 120) rfl rfl ?_
                            refine pw_ald2 h19I E (c := 138) (pc' := 121) rfl rfl rfl (by decide) rfl (by decide) (by omega) (by omega) rfl (fun hf82a hf82b => ?_)
                            refine pw_ld E (pc' := 122) (st' := [pw_i 2, pw_i (pw_g h19 138 (((12 * k51_6) + b).toNat))]) rfl (fun _ => rfl) ?_
                            refine pw_if2 E (pc' := 129) rfl (by decide) (by omega) (by omega) (by decide) (by decide) ?_ ?_
                            · intro hc83
                              change pw_g h19 138 (((12 * k51_6) + b).toNat) ≠ (2 : Int) at hc83
                              refine pw_ld E (pc' := 130) (st' := [pw_i 0]) rfl (fun _ => rfl) ?_
                              refine pw_ist E (pc' := 132) (ls' := [some (.ref 141), some (pw_i bk), some (pw_i b), some (pw_i e), some (pw_i wt), some (pw_i k51_5), some (pw_i k51_6), some (pw_i 0), some (pw_i 0), some (pw_i 0), k51_10]) rfl rfl rfl rfl ?_
                              refine pw_ld E (pc' := 133) (st' := [.ref 141]) rfl (fun _ => rfl) ?_
                              refine pw_getR (b := 154) h19I E (c := 125) (k := 18) (pc' := 136) rfl rfl rfl rfl rfl rfl rfl ?_
                              refine pw_bip E (pc' := 138) rfl rfl (by decide) ?_
                              refine pw_ld E (pc' := 140) (st' := [pw_i k51_6, pw_i 12, .ref 154]) rfl (fun _ => rfl) ?_
                              refine pw_mul E (pc' := 141) rfl rfl ?_
                              refine pw_ld E (pc' := 142) (st' := [pw_i e, pw_i (12 * k51_6), .ref 154]) rfl (fun _ => rfl) ?_
                              refine pw_add E (pc' := 143) rfl rfl ?_
                              refine pw_ald2 h19I E (c := 138) (pc' := 144) rfl rfl rfl (by decide) rfl (by decide) (by omega) (by omega) rfl (fun hf84a hf84b => ?_)
                              refine pw_ld E (pc' := 145) (st' := [pw_i 2, pw_i (pw_g h19 138 (((12 * k51_6) + e).toNat))]) rfl (fun _ => rfl) ?_
                              refine pw_if2 E (pc' := 152) rfl (by decide) (by omega) (by omega) (by decide) (by decide) ?_ ?_
                              · intro hc85
                                change pw_g h19 138 (((12 * k51_6) + e).toNat) ≠ (2 : Int) at hc85
                                refine pw_ld E (pc' := 153) (st' := [pw_i 0]) rfl (fun _ => rfl) ?_
                                refine pw_ist E (pc' := 155) (ls' := [some (.ref 141), some (pw_i bk), some (pw_i b), some (pw_i e), some (pw_i wt), some (pw_i k51_5), some (pw_i k51_6), some (pw_i 0), some (pw_i 0), some (pw_i 0), some (pw_i 0)]) rfl rfl rfl rfl ?_
                                refine pw_ld E (pc' := 157) (st' := [pw_i wt]) rfl (fun _ => rfl) ?_
                                refine pw_ld E (pc' := 158) (st' := [pw_i 4, pw_i wt]) rfl (fun _ => rfl) ?_
                                refine pw_if2 E (pc' := 186) rfl (by decide) (by omega) (by omega) (by decide) (by decide) ?_ ?_
                                · intro hc86
                                  change wt ≠ (4 : Int) at hc86
                                  refine pw_ld E (pc' := 188) (st' := [pw_i wt]) rfl (fun _ => rfl) ?_
                                  refine pw_ld E (pc' := 189) (st' := [pw_i 2, pw_i wt]) rfl (fun _ => rfl) ?_
                                  refine pw_if2 E (pc' := 225) rfl (by decide) (by omega) (by omega) (by decide) (by decide) ?_ ?_
                                  · intro hc87
                                    change (2 : Int) ≤ wt at hc87
                                    refine pw_ld E (pc' := 227) (st' := [pw_i k51_5]) rfl (fun _ => rfl) ?_
                                    refine pw_ld E (pc' := 229) (st' := [pw_i 0, pw_i k51_5]) rfl (fun _ => rfl) ?_
                                    refine pw_if E (pc' := 265) rfl (by decide) (by decide) (by decide) ?_ ?_
                                    · intro hc88
                                      change (0 : Int) = (0 : Int) at hc88
                                      refine pw_ld E (pc' := 266) (st' := [pw_i 0, pw_i k51_5]) rfl (fun _ => rfl) ?_
                                      refine pw_add E (pc' := 267) rfl rfl ?_
                                      refine pw_ist E (pc' := 269) (ls' := [some (.ref 141), some (pw_i bk), some (pw_i b), some (pw_i e), some (pw_i wt), some (pw_i (k51_5 + 0)), some (pw_i k51_6), some (pw_i 0), some (pw_i 0), some (pw_i 0), some (pw_i 0)]) rfl rfl rfl rfl ?_
                                      refine pw_inc E (pc' := 272) (ls' := [some (.ref 141), some (pw_i bk), some (pw_i b), some (pw_i e), some (pw_i wt), some (pw_i (k51_5 + 0)), some (pw_i (k51_6 + 1)), some (pw_i 0), some (pw_i 0), some (pw_i 0), some (pw_i 0)]) rfl rfl rfl rfl ?_
                                      refine pw_goto E (pc' := 51) rfl (by decide) ?_
                                      exact ih51 _ (by omega) (k51_5 + 0) (k51_6 + 1) (some (pw_i 0)) (some (pw_i 0)) (some (pw_i 0)) (some (pw_i 0))  (by omega) (by omega) (by omega) (by omega)  rfl
                                    · intro hc89
                                      change ¬ ((0 : Int) = (0 : Int)) at hc89
                                      exfalso; omega
                                  · intro hc90
                                    change ¬ ((2 : Int) ≤ wt) at hc90
                                    refine pw_ld E (pc' := 194) (st' := [pw_i k51_5]) rfl (fun _ => rfl) ?_
                                    refine pw_ld E (pc' := 196) (st' := [pw_i 0, pw_i k51_5]) rfl (fun _ => rfl) ?_
                                    refine pw_if E (pc' := 218) rfl (by decide) (by decide) (by decide) ?_ ?_
                                    · intro hc91
                                      change (0 : Int) = (0 : Int) at hc91
                                      refine pw_ld E (pc' := 219) (st' := [pw_i 0, pw_i k51_5]) rfl (fun _ => rfl) ?_
                                      refine pw_add E (pc' := 220) rfl rfl ?_
                                      refine pw_ist E (pc' := 222) (ls' := [some (.ref 141), some (pw_i bk), some (pw_i b), some (pw_i e), some (pw_i wt), some (pw_i (k51_5 + 0)), some (pw_i k51_6), some (pw_i 0), some (pw_i 0), some (pw_i 0), some (pw_i 0)]) rfl rfl rfl rfl ?_
                                      refine pw_goto E (pc' := 269) rfl (by decide) ?_
                                      refine pw_inc E (pc' := 272) (ls' := [some (.ref 141), some (pw_i bk), some (pw_i b), some (pw_i e), some (pw_i wt), some (pw_i (k51_5 + 0)), some (pw_i (k51_6 + 1)), some (pw_i 0), some (pw_i 0), some (pw_i 0), some (pw_i 0)]) rfl rfl rfl rfl ?_
                                      refine pw_goto E (pc' := 51) rfl (by decide) ?_
                                      exact ih51 _ (by omega) (k51_5 + 0) (k51_6 + 1) (some (pw_i 0)) (some (pw_i 0)) (some (pw_i 0)) (some (pw_i 0))  (by omega) (by omega) (by omega) (by omega)  rfl
                                    · intro hc92
                                      change ¬ ((0 : Int) = (0 : Int)) at hc92
                                      exfalso; omega
                                · intro hc93
                                  change ¬ (wt ≠ (4 : Int)) at hc93
                                  refine pw_ld E (pc' := 163) (st' := [pw_i k51_5]) rfl (fun _ => rfl) ?_
                                  refine pw_ld E (pc' := 165) (st' := [pw_i 0, pw_i k51_5]) rfl (fun _ => rfl) ?_
                                  refine pw_if E (pc' := 179) rfl (by decide) (by decide) (by decide) ?_ ?_
                                  · intro hc94
                                    change (0 : Int) = (0 : Int) at hc94
                                    refine pw_ld E (pc' := 180) (st' := [pw_i 0, pw_i k51_5]) rfl (fun _ => rfl) ?_
                                    refine pw_add E (pc' := 181) rfl rfl ?_
                                    refine pw_ist E (pc' := 183) (ls' := [some (.ref 141), some (pw_i bk), some (pw_i b), some (pw_i e), some (pw_i wt), some (pw_i (k51_5 + 0)), some (pw_i k51_6), some (pw_i 0), some (pw_i 0), some (pw_i 0), some (pw_i 0)]) rfl rfl rfl rfl ?_
                                    refine pw_goto E (pc' := 269) rfl (by decide) ?_
                                    refine pw_inc E (pc' := 272) (ls' := [some (.ref 141), some (pw_i bk), some (pw_i b), some (pw_i e), some (pw_i wt), some (pw_i (k51_5 + 0)), some (pw_i (k51_6 + 1)), some (pw_i 0), some (pw_i 0), some (pw_i 0), some (pw_i 0)]) rfl rfl rfl rfl ?_
                                    refine pw_goto E (pc' := 51) rfl (by decide) ?_
                                    exact ih51 _ (by omega) (k51_5 + 0) (k51_6 + 1) (some (pw_i 0)) (some (pw_i 0)) (some (pw_i 0)) (some (pw_i 0))  (by omega) (by omega) (by omega) (by omega)  rfl
                                  · intro hc95
                                    change ¬ ((0 : Int) = (0 : Int)) at hc95
                                    exfalso; omega
                              · intro hc96
                                change ¬ (pw_g h19 138 (((12 * k51_6) + e).toNat) ≠ (2 : Int)) at hc96
                                refine pw_ld E (pc' := 149) (st' := [pw_i 1]) rfl (fun _ => rfl) ?_
                                refine pw_goto E (pc' := 153) rfl (by decide) ?_
                                refine pw_ist E (pc' := 155) (ls' := [some (.ref 141), some (pw_i bk), some (pw_i b), some (pw_i e), some (pw_i wt), some (pw_i k51_5), some (pw_i k51_6), some (pw_i 0), some (pw_i 0), some (pw_i 0), some (pw_i 1)]) rfl rfl rfl rfl ?_
                                refine pw_ld E (pc' := 157) (st' := [pw_i wt]) rfl (fun _ => rfl) ?_
                                refine pw_ld E (pc' := 158) (st' := [pw_i 4, pw_i wt]) rfl (fun _ => rfl) ?_
                                refine pw_if2 E (pc' := 186) rfl (by decide) (by omega) (by omega) (by decide) (by decide) ?_ ?_
                                · intro hc97
                                  change wt ≠ (4 : Int) at hc97
                                  refine pw_ld E (pc' := 188) (st' := [pw_i wt]) rfl (fun _ => rfl) ?_
                                  refine pw_ld E (pc' := 189) (st' := [pw_i 2, pw_i wt]) rfl (fun _ => rfl) ?_
                                  refine pw_if2 E (pc' := 225) rfl (by decide) (by omega) (by omega) (by decide) (by decide) ?_ ?_
                                  · intro hc98
                                    change (2 : Int) ≤ wt at hc98
                                    refine pw_ld E (pc' := 227) (st' := [pw_i k51_5]) rfl (fun _ => rfl) ?_
                                    refine pw_ld E (pc' := 229) (st' := [pw_i 0, pw_i k51_5]) rfl (fun _ => rfl) ?_
                                    refine pw_if E (pc' := 265) rfl (by decide) (by decide) (by decide) ?_ ?_
                                    · intro hc99
                                      change (0 : Int) = (0 : Int) at hc99
                                      refine pw_ld E (pc' := 266) (st' := [pw_i 0, pw_i k51_5]) rfl (fun _ => rfl) ?_
                                      refine pw_add E (pc' := 267) rfl rfl ?_
                                      refine pw_ist E (pc' := 269) (ls' := [some (.ref 141), some (pw_i bk), some (pw_i b), some (pw_i e), some (pw_i wt), some (pw_i (k51_5 + 0)), some (pw_i k51_6), some (pw_i 0), some (pw_i 0), some (pw_i 0), some (pw_i 1)]) rfl rfl rfl rfl ?_
                                      refine pw_inc E (pc' := 272) (ls' := [some (.ref 141), some (pw_i bk), some (pw_i b), some (pw_i e), some (pw_i wt), some (pw_i (k51_5 + 0)), some (pw_i (k51_6 + 1)), some (pw_i 0), some (pw_i 0), some (pw_i 0), some (pw_i 1)]) rfl rfl rfl rfl ?_
                                      refine pw_goto E (pc' := 51) rfl (by decide) ?_
                                      exact ih51 _ (by omega) (k51_5 + 0) (k51_6 + 1) (some (pw_i 0)) (some (pw_i 0)) (some (pw_i 0)) (some (pw_i 1))  (by omega) (by omega) (by omega) (by omega)  rfl
                                    · intro hc100
                                      change ¬ ((0 : Int) = (0 : Int)) at hc100
                                      exfalso; omega
                                  · intro hc101
                                    change ¬ ((2 : Int) ≤ wt) at hc101
                                    refine pw_ld E (pc' := 194) (st' := [pw_i k51_5]) rfl (fun _ => rfl) ?_
                                    refine pw_ld E (pc' := 196) (st' := [pw_i 0, pw_i k51_5]) rfl (fun _ => rfl) ?_
                                    refine pw_if E (pc' := 218) rfl (by decide) (by decide) (by decide) ?_ ?_
                                    · intro hc102
                                      change (0 : Int) = (0 : Int) at hc102
                                      refine pw_ld E (pc' := 219) (st' := [pw_i 0, pw_i k51_5]) rfl (fun _ => rfl) ?_
                                      refine pw_add E (pc' := 220) rfl rfl ?_
                                      refine pw_ist E (pc' := 222) (ls' := [some (.ref 141), some (pw_i bk), some (pw_i b), some (pw_i e), some (pw_i wt), some (pw_i (k51_5 + 0)), some (pw_i k51_6), some (pw_i 0), some (pw_i 0), some (pw_i 0), some (pw_i 1)]) rfl rfl rfl rfl ?_
                                      refine pw_goto E (pc' := 269) rfl (by decide) ?_
                                      refine pw_inc E (pc' := 272) (ls' := [some (.ref 141), some (pw_i bk), some (pw_i b), some (pw_i e), some (pw_i wt), some (pw_i (k51_5 + 0)), some (pw_i (k51_6 + 1)), some (pw_i 0), some (pw_i 0), some (pw_i 0), some (pw_i 1)]) rfl rfl rfl rfl ?_
                                      refine pw_goto E (pc' := 51) rfl (by decide) ?_
                                      exact ih51 _ (by omega) (k51_5 + 0) (k51_6 + 1) (some (pw_i 0)) (some (pw_i 0)) (some (pw_i 0)) (some (pw_i 1))  (by omega) (by omega) (by omega) (by omega)  rfl
                                    · intro hc103
                                      change ¬ ((0 : Int) = (0 : Int)) at hc103
                                      exfalso; omega
                                · intro hc104
                                  change ¬ (wt ≠ (4 : Int)) at hc104
                                  refine pw_ld E (pc' := 163) (st' := [pw_i k51_5]) rfl (fun _ => rfl) ?_
                                  refine pw_ld E (pc' := 165) (st' := [pw_i 0, pw_i k51_5]) rfl (fun _ => rfl) ?_
                                  refine pw_if E (pc' := 179) rfl (by decide) (by decide) (by decide) ?_ ?_
                                  · intro hc105
                                    change (0 : Int) = (0 : Int) at hc105
                                    refine pw_ld E (pc' := 180) (st' := [pw_i 0, pw_i k51_5]) rfl (fun _ => rfl) ?_
                                    refine pw_add E (pc' := 181) rfl rfl ?_
                                    refine pw_ist E (pc' := 183) (ls' := [some (.ref 141), some (pw_i bk), some (pw_i b), some (pw_i e), some (pw_i wt), some (pw_i (k51_5 + 0)), some (pw_i k51_6), some (pw_i 0), some (pw_i 0), some (pw_i 0), some (pw_i 1)]) rfl rfl rfl rfl ?_
                                    refine pw_goto E (pc' := 269) rfl (by decide) ?_
                                    refine pw_inc E (pc' := 272) (ls' := [some (.ref 141), some (pw_i bk), some (pw_i b), some (pw_i e), some (pw_i wt), some (pw_i (k51_5 + 0)), some (pw_i (k51_6 + 1)), some (pw_i 0), some (pw_i 0), some (pw_i 0), some (pw_i 1)]) rfl rfl rfl rfl ?_
                                    refine pw_goto E (pc' := 51) rfl (by decide) ?_
                                    exact ih51 _ (by omega) (k51_5 + 0) (k51_6 + 1) (some (pw_i 0)) (some (pw_i 0)) (some (pw_i 0)) (some (pw_i 1))  (by omega) (by omega) (by omega) (by omega)  rfl
                                  · intro hc106
                                    change ¬ ((0 : Int) = (0 : Int)) at hc106
                                    exfalso; omega
                            · intro hc107
                              change ¬ (pw_g h19 138 (((12 * k51_6) + b).toNat) ≠ (2 : Int)) at hc107
                              refine pw_ld E (pc' := 126) (st' := [pw_i 1]) rfl (fun _ => rfl) ?_
                              refine pw_goto E (pc' := 130) rfl (by decide) ?_
                              refine pw_ist E (pc' := 132) (ls' := [some (.ref 141), some (pw_i bk), some (pw_i b), some (pw_i e), some (pw_i wt), some (pw_i k51_5), some (pw_i k51_6), some (pw_i 0), some (pw_i 0), some (pw_i 1), k51_10]) rfl rfl rfl rfl ?_
                              refine pw_ld E (pc' := 133) (st' := [.ref 141]) rfl (fun _ => rfl) ?_
                              refine pw_getR (b := 154) h19I E (c := 125) (k := 18) (pc' := 136) rfl rfl rfl rfl rfl rfl rfl ?_
                              refine pw_bip E (pc' := 138) rfl rfl (by decide) ?_
                              refine pw_ld E (pc' := 140) (st' := [pw_i k51_6, pw_i 12, .ref 154]) rfl (fun _ => rfl) ?_
                              refine pw_mul E (pc' := 141) rfl rfl ?_
                              refine pw_ld E (pc' := 142) (st' := [pw_i e, pw_i (12 * k51_6), .ref 154]) rfl (fun _ => rfl) ?_
                              refine pw_add E (pc' := 143) rfl rfl ?_
                              refine pw_ald2 h19I E (c := 138) (pc' := 144) rfl rfl rfl (by decide) rfl (by decide) (by omega) (by omega) rfl (fun hf108a hf108b => ?_)
                              refine pw_ld E (pc' := 145) (st' := [pw_i 2, pw_i (pw_g h19 138 (((12 * k51_6) + e).toNat))]) rfl (fun _ => rfl) ?_
                              refine pw_if2 E (pc' := 152) rfl (by decide) (by omega) (by omega) (by decide) (by decide) ?_ ?_
                              · intro hc109
                                change pw_g h19 138 (((12 * k51_6) + e).toNat) ≠ (2 : Int) at hc109
                                refine pw_ld E (pc' := 153) (st' := [pw_i 0]) rfl (fun _ => rfl) ?_
                                refine pw_ist E (pc' := 155) (ls' := [some (.ref 141), some (pw_i bk), some (pw_i b), some (pw_i e), some (pw_i wt), some (pw_i k51_5), some (pw_i k51_6), some (pw_i 0), some (pw_i 0), some (pw_i 1), some (pw_i 0)]) rfl rfl rfl rfl ?_
                                refine pw_ld E (pc' := 157) (st' := [pw_i wt]) rfl (fun _ => rfl) ?_
                                refine pw_ld E (pc' := 158) (st' := [pw_i 4, pw_i wt]) rfl (fun _ => rfl) ?_
                                refine pw_if2 E (pc' := 186) rfl (by decide) (by omega) (by omega) (by decide) (by decide) ?_ ?_
                                · intro hc110
                                  change wt ≠ (4 : Int) at hc110
                                  refine pw_ld E (pc' := 188) (st' := [pw_i wt]) rfl (fun _ => rfl) ?_
                                  refine pw_ld E (pc' := 189) (st' := [pw_i 2, pw_i wt]) rfl (fun _ => rfl) ?_
                                  refine pw_if2 E (pc' := 225) rfl (by decide) (by omega) (by omega) (by decide) (by decide) ?_ ?_
                                  · intro hc111
                                    change (2 : Int) ≤ wt at hc111
                                    refine pw_ld E (pc' := 227) (st' := [pw_i k51_5]) rfl (fun _ => rfl) ?_
                                    refine pw_ld E (pc' := 229) (st' := [pw_i 0, pw_i k51_5]) rfl (fun _ => rfl) ?_
                                    refine pw_if E (pc' := 265) rfl (by decide) (by decide) (by decide) ?_ ?_
                                    · intro hc112
                                      change (0 : Int) = (0 : Int) at hc112
                                      refine pw_ld E (pc' := 266) (st' := [pw_i 0, pw_i k51_5]) rfl (fun _ => rfl) ?_
                                      refine pw_add E (pc' := 267) rfl rfl ?_
                                      refine pw_ist E (pc' := 269) (ls' := [some (.ref 141), some (pw_i bk), some (pw_i b), some (pw_i e), some (pw_i wt), some (pw_i (k51_5 + 0)), some (pw_i k51_6), some (pw_i 0), some (pw_i 0), some (pw_i 1), some (pw_i 0)]) rfl rfl rfl rfl ?_
                                      refine pw_inc E (pc' := 272) (ls' := [some (.ref 141), some (pw_i bk), some (pw_i b), some (pw_i e), some (pw_i wt), some (pw_i (k51_5 + 0)), some (pw_i (k51_6 + 1)), some (pw_i 0), some (pw_i 0), some (pw_i 1), some (pw_i 0)]) rfl rfl rfl rfl ?_
                                      refine pw_goto E (pc' := 51) rfl (by decide) ?_
                                      exact ih51 _ (by omega) (k51_5 + 0) (k51_6 + 1) (some (pw_i 0)) (some (pw_i 0)) (some (pw_i 1)) (some (pw_i 0))  (by omega) (by omega) (by omega) (by omega)  rfl
                                    · intro hc113
                                      change ¬ ((0 : Int) = (0 : Int)) at hc113
                                      exfalso; omega
                                  · intro hc114
                                    change ¬ ((2 : Int) ≤ wt) at hc114
                                    refine pw_ld E (pc' := 194) (st' := [pw_i k51_5]) rfl (fun _ => rfl) ?_
                                    refine pw_ld E (pc' := 196) (st' := [pw_i 0, pw_i k51_5]) rfl (fun _ => rfl) ?_
                                    refine pw_if E (pc' := 218) rfl (by decide) (by decide) (by decide) ?_ ?_
                                    · intro hc115
                                      change (0 : Int) = (0 : Int) at hc115
                                      refine pw_ld E (pc' := 219) (st' := [pw_i 0, pw_i k51_5]) rfl (fun _ => rfl) ?_
                                      refine pw_add E (pc' := 220) rfl rfl ?_
                                      refine pw_ist E (pc' := 222) (ls' := [some (.ref 141), some (pw_i bk), some (pw_i b), some (pw_i e), some (pw_i wt), some (pw_i (k51_5 + 0)), some (pw_i k51_6), some (pw_i 0), some (pw_i 0), some (pw_i 1), some (pw_i 0)]) rfl rfl rfl rfl ?_
                                      refine pw_goto E (pc' := 269) rfl (by decide) ?_
                                      refine pw_inc E (pc' := 272) (ls' := [some (.ref 141), some (pw_i bk), some (pw_i b), some (pw_i e), some (pw_i wt), some (pw_i (k51_5 + 0)), some (pw_i (k51_6 + 1)), some (pw_i 0), some (pw_i 0), some (pw_i 1), some (pw_i 0)]) rfl rfl rfl rfl ?_
                                      refine pw_goto E (pc' := 51) rfl (by decide) ?_
                                      exact ih51 _ (by omega) (k51_5 + 0) (k51_6 + 1) (some (pw_i 0)) (some (pw_i 0)) (some (pw_i 1)) (some (pw_i 0))  (by omega) (by omega) (by omega) (by omega)  rfl
                                    · intro hc116
                                      change ¬ ((0 : Int) = (0 : Int)) at hc116
                                      exfalso; omega
                                · intro hc117
                                  change ¬ (wt ≠ (4 : Int)) at hc117
                                  refine pw_ld E (pc' := 163) (st' := [pw_i k51_5]) rfl (fun _ => rfl) ?_
                                  refine pw_ld E (pc' := 165) (st' := [pw_i 0, pw_i k51_5]) rfl (fun _ => rfl) ?_
                                  refine pw_if E (pc' := 179) rfl (by decide) (by decide) (by decide) ?_ ?_
                                  · intro hc118
                                    change (0 : Int) = (0 : Int) at hc118
                                    refine pw_ld E (pc' := 180) (st' := [pw_i 0, pw_i k51_5]) rfl (fun _ => rfl) ?_
                                    refine pw_add E (pc' := 181) rfl rfl ?_
                                    refine pw_ist E (pc' := 183) (ls' := [some (.ref 141), some (pw_i bk), some (pw_i b), some (pw_i e), some (pw_i wt), some (pw_i (k51_5 + 0)), some (pw_i k51_6), some (pw_i 0), some (pw_i 0), some (pw_i 1), some (pw_i 0)]) rfl rfl rfl rfl ?_
                                    refine pw_goto E (pc' := 269) rfl (by decide) ?_
                                    refine pw_inc E (pc' := 272) (ls' := [some (.ref 141), some (pw_i bk), some (pw_i b), some (pw_i e), some (pw_i wt), some (pw_i (k51_5 + 0)), some (pw_i (k51_6 + 1)), some (pw_i 0), some (pw_i 0), some (pw_i 1), some (pw_i 0)]) rfl rfl rfl rfl ?_
                                    refine pw_goto E (pc' := 51) rfl (by decide) ?_
                                    exact ih51 _ (by omega) (k51_5 + 0) (k51_6 + 1) (some (pw_i 0)) (some (pw_i 0)) (some (pw_i 1)) (some (pw_i 0))  (by omega) (by omega) (by omega) (by omega)  rfl
                                  · intro hc119
                                    change ¬ ((0 : Int) = (0 : Int)) at hc119
                                    exfalso; omega
                              · intro hc120
                                change ¬ (pw_g h19 138 (((12 * k51_6) + e).toNat) ≠ (2 : Int)) at hc120
                                refine pw_ld E (pc' := 149) (st' := [pw_i 1]) rfl (fun _ => rfl) ?_
                                refine pw_goto E (pc' := 153) rfl (by decide) ?_
                                refine pw_ist E (pc' := 155) (ls' := [some (.ref 141), some (pw_i bk), some (pw_i b), some (pw_i e), some (pw_i wt), some (pw_i k51_5), some (pw_i k51_6), some (pw_i 0), some (pw_i 0), some (pw_i 1), some (pw_i 1)]) rfl rfl rfl rfl ?_
                                refine pw_ld E (pc' := 157) (st' := [pw_i wt]) rfl (fun _ => rfl) ?_
                                refine pw_ld E (pc' := 158) (st' := [pw_i 4, pw_i wt]) rfl (fun _ => rfl) ?_
                                refine pw_if2 E (pc' := 186) rfl (by decide) (by omega) (by omega) (by decide) (by decide) ?_ ?_
                                · intro hc121
                                  change wt ≠ (4 : Int) at hc121
                                  refine pw_ld E (pc' := 188) (st' := [pw_i wt]) rfl (fun _ => rfl) ?_
                                  refine pw_ld E (pc' := 189) (st' := [pw_i 2, pw_i wt]) rfl (fun _ => rfl) ?_
                                  refine pw_if2 E (pc' := 225) rfl (by decide) (by omega) (by omega) (by decide) (by decide) ?_ ?_
                                  · intro hc122
                                    change (2 : Int) ≤ wt at hc122
                                    refine pw_ld E (pc' := 227) (st' := [pw_i k51_5]) rfl (fun _ => rfl) ?_
                                    refine pw_ld E (pc' := 229) (st' := [pw_i 0, pw_i k51_5]) rfl (fun _ => rfl) ?_
                                    refine pw_if E (pc' := 265) rfl (by decide) (by decide) (by decide) ?_ ?_
                                    · intro hc123
                                      change (0 : Int) = (0 : Int) at hc123
                                      refine pw_ld E (pc' := 266) (st' := [pw_i 0, pw_i k51_5]) rfl (fun _ => rfl) ?_
                                      refine pw_add E (pc' := 267) rfl rfl ?_
                                      refine pw_ist E (pc' := 269) (ls' := [some (.ref 141), some (pw_i bk), some (pw_i b), some (pw_i e), some (pw_i wt), some (pw_i (k51_5 + 0)), some (pw_i k51_6), some (pw_i 0), some (pw_i 0), some (pw_i 1), some (pw_i 1)]) rfl rfl rfl rfl ?_
                                      refine pw_inc E (pc' := 272) (ls' := [some (.ref 141), some (pw_i bk), some (pw_i b), some (pw_i e), some (pw_i wt), some (pw_i (k51_5 + 0)), some (pw_i (k51_6 + 1)), some (pw_i 0), some (pw_i 0), some (pw_i 1), some (pw_i 1)]) rfl rfl rfl rfl ?_
                                      refine pw_goto E (pc' := 51) rfl (by decide) ?_
                                      exact ih51 _ (by omega) (k51_5 + 0) (k51_6 + 1) (some (pw_i 0)) (some (pw_i 0)) (some (pw_i 1)) (some (pw_i 1))  (by omega) (by omega) (by omega) (by omega)  rfl
                                    · intro hc124
                                      change ¬ ((0 : Int) = (0 : Int)) at hc124
                                      exfalso; omega
                                  · intro hc125
                                    change ¬ ((2 : Int) ≤ wt) at hc125
                                    refine pw_ld E (pc' := 194) (st' := [pw_i k51_5]) rfl (fun _ => rfl) ?_
                                    refine pw_ld E (pc' := 196) (st' := [pw_i 0, pw_i k51_5]) rfl (fun _ => rfl) ?_
                                    refine pw_if E (pc' := 218) rfl (by decide) (by decide) (by decide) ?_ ?_
                                    · intro hc126
                                      change (0 : Int) = (0 : Int) at hc126
                                      refine pw_ld E (pc' := 219) (st' := [pw_i 0, pw_i k51_5]) rfl (fun _ => rfl) ?_
                                      refine pw_add E (pc' := 220) rfl rfl ?_
                                      refine pw_ist E (pc' := 222) (ls' := [some (.ref 141), some (pw_i bk), some (pw_i b), some (pw_i e), some (pw_i wt), some (pw_i (k51_5 + 0)), some (pw_i k51_6), some (pw_i 0), some (pw_i 0), some (pw_i 1), some (pw_i 1)]) rfl rfl rfl rfl ?_
                                      refine pw_goto E (pc' := 269) rfl (by decide) ?_
                                      refine pw_inc E (pc' := 272) (ls' := [some (.ref 141), some (pw_i bk), some (pw_i b), some (pw_i e), some (pw_i wt), some (pw_i (k51_5 + 0)), some (pw_i (k51_6 + 1)), some (pw_i 0), some (pw_i 0), some (pw_i 1), some (pw_i 1)]) rfl rfl rfl rfl ?_
                                      refine pw_goto E (pc' := 51) rfl (by decide) ?_
                                      exact ih51 _ (by omega) (k51_5 + 0) (k51_6 + 1) (some (pw_i 0)) (some (pw_i 0)) (some (pw_i 1)) (some (pw_i 1))  (by omega) (by omega) (by omega) (by omega)  rfl
                                    · intro hc127
                                      change ¬ ((0 : Int) = (0 : Int)) at hc127
                                      exfalso; omega
                                · intro hc128
                                  change ¬ (wt ≠ (4 : Int)) at hc128
                                  refine pw_ld E (pc' := 163) (st' := [pw_i k51_5]) rfl (fun _ => rfl) ?_
                                  refine pw_ld E (pc' := 165) (st' := [pw_i 0, pw_i k51_5]) rfl (fun _ => rfl) ?_
                                  refine pw_if E (pc' := 179) rfl (by decide) (by decide) (by decide) ?_ ?_
                                  · intro hc129
                                    change (0 : Int) = (0 : Int) at hc129
                                    refine pw_ld E (pc' := 180) (st' := [pw_i 0, pw_i k51_5]) rfl (fun _ => rfl) ?_
                                    refine pw_add E (pc' := 181) rfl rfl ?_
                                    refine pw_ist E (pc' := 183) (ls' := [some (.ref 141), some (pw_i bk), some (pw_i b), some (pw_i e), some (pw_i wt), some (pw_i (k51_5 + 0)), some (pw_i k51_6), some (pw_i 0), some (pw_i 0), some (pw_i 1), some (pw_i 1)]) rfl rfl rfl rfl ?_
                                    refine pw_goto E (pc' := 269) rfl (by decide) ?_
                                    refine pw_inc E (pc' := 272) (ls' := [some (.ref 141), some (pw_i bk), some (pw_i b), some (pw_i e), some (pw_i wt), some (pw_i (k51_5 + 0)), some (pw_i (k51_6 + 1)), some (pw_i 0), some (pw_i 0), some (pw_i 1), some (pw_i 1)]) rfl rfl rfl rfl ?_
                                    refine pw_goto E (pc' := 51) rfl (by decide) ?_
                                    exact ih51 _ (by omega) (k51_5 + 0) (k51_6 + 1) (some (pw_i 0)) (some (pw_i 0)) (some (pw_i 1)) (some (pw_i 1))  (by omega) (by omega) (by omega) (by omega)  rfl
                                  · intro hc130
                                    change ¬ ((0 : Int) = (0 : Int)) at hc130
                                    exfalso; omega
                          · intro hc131
                            change ¬ ((0 : Int) = (0 : Int)) at hc131
                            exfalso; omega
                        · intro hc132
                          change ¬ (pw_g h19 132 (k51_6.toNat) ≠ bk) at hc132
                          refine pw_ld E (pc' := 80) (st' := [pw_i 1]) rfl (fun _ => rfl) ?_
                          refine pw_goto E (pc' := 84) rfl (by decide) ?_
                          refine pw_ist E (pc' := 86) (ls' := [some (.ref 141), some (pw_i bk), some (pw_i b), some (pw_i e), some (pw_i wt), some (pw_i k51_5), some (pw_i k51_6), some (pw_i 1), k51_8, k51_9, k51_10]) rfl rfl rfl rfl ?_
                          refine pw_ld E (pc' := 88) (st' := [pw_i 1]) rfl (fun _ => rfl) ?_
                          refine pw_if E (pc' := 106) rfl (by decide) (by decide) (by decide) ?_ ?_
                          · intro hc133
                            change (1 : Int) = (0 : Int) at hc133
                            exfalso; omega
                          · intro hc134
                            change ¬ ((1 : Int) = (0 : Int)) at hc134
                            refine pw_ld E (pc' := 92) (st' := [.ref 141]) rfl (fun _ => rfl) ?_
                            refine pw_ld E (pc' := 94) (st' := [pw_i k51_6, .ref 141]) rfl (fun _ => rfl) ?_
                            refine pw_ld E (pc' := 95) (st' := [pw_i b, pw_i k51_6, .ref 141]) rfl (fun _ => rfl) ?_
                            refine pw_ld E (pc' := 96) (st' := [pw_i e, pw_i b, pw_i k51_6, .ref 141]) rfl (fun _ => rfl) ?_
                            obtain ⟨f135l, f135h, -⟩ := pw_obj (c := 125) h19I rfl
                            refine pw_call (m' := 214) (As := [.ref 141, pw_i k51_6, pw_i b, pw_i e]) (rest := []) (ls'' := [some (.ref 141), some (pw_i k51_6), some (pw_i b), some (pw_i e)]) (Nat.le_trans (by decide) hd) E rfl (fun _ => pw_iV rfl rfl rfl rfl (pw_cellI f135h rfl)) (rfl : pm_ent 214 = some (4, 4, 12, 1, pmc_214)) rfl rfl (cm_214 (pw_dp hd (by decide)) h19I (k51_6) (by omega) (by omega) (b) (by omega) (by omega) (e) (by omega) (by omega)) ?_
                            rintro u137 v136 ⟨rfl, x138, rfl, hx138a, hx138b⟩
                            refine ⟨_, rfl, ?_⟩
                            show pw X d h19 212 99 [some (.ref 141), some (pw_i bk), some (pw_i b), some (pw_i e), some (pw_i wt), some (pw_i k51_5), some (pw_i k51_6), some (pw_i 1), k51_8, k51_9, k51_10] [pw_i x138] _
                            refine pw_if E (pc' := 106) rfl (by decide) (by omega) (by omega) ?_ ?_
                            · intro hc139
                              change x138 = (0 : Int) at hc139
                              refine pw_ld E (pc' := 107) (st' := [pw_i 0]) rfl (fun _ => rfl) ?_
                              refine pw_ist E (pc' := 109) (ls' := [some (.ref 141), some (pw_i bk), some (pw_i b), some (pw_i e), some (pw_i wt), some (pw_i k51_5), some (pw_i k51_6), some (pw_i 1), some (pw_i 0), k51_9, k51_10]) rfl rfl rfl rfl ?_
                              refine pw_ld E (pc' := 110) (st' := [.ref 141]) rfl (fun _ => rfl) ?_
                              refine pw_getR (b := 154) h19I E (c := 125) (k := 18) (pc' := 113) rfl rfl rfl rfl rfl rfl rfl ?_
                              refine pw_bip E (pc' := 115) rfl rfl (by decide) ?_
                              refine pw_ld E (pc' := 117) (st' := [pw_i k51_6, pw_i 12, .ref 154]) rfl (fun _ => rfl) ?_
                              refine pw_mul E (pc' := 118) rfl rfl ?_
                              refine pw_ld E (pc' := 119) (st' := [pw_i b, pw_i (12 * k51_6), .ref 154]) rfl (fun _ => rfl) ?_
                              refine pw_add E (pc' := 120) rfl rfl ?_
                              refine pw_ald2 h19I E (c := 138) (pc' := 121) rfl rfl rfl (by decide) rfl (by decide) (by omega) (by omega) rfl (fun hf140a hf140b => ?_)
                              refine pw_ld E (pc' := 122) (st' := [pw_i 2, pw_i (pw_g h19 138 (((12 * k51_6) + b).toNat))]) rfl (fun _ => rfl) ?_
                              refine pw_if2 E (pc' := 129) rfl (by decide) (by omega) (by omega) (by decide) (by decide) ?_ ?_
                              · intro hc141
                                change pw_g h19 138 (((12 * k51_6) + b).toNat) ≠ (2 : Int) at hc141
                                refine pw_ld E (pc' := 130) (st' := [pw_i 0]) rfl (fun _ => rfl) ?_
                                refine pw_ist E (pc' := 132) (ls' := [some (.ref 141), some (pw_i bk), some (pw_i b), some (pw_i e), some (pw_i wt), some (pw_i k51_5), some (pw_i k51_6), some (pw_i 1), some (pw_i 0), some (pw_i 0), k51_10]) rfl rfl rfl rfl ?_
                                refine pw_ld E (pc' := 133) (st' := [.ref 141]) rfl (fun _ => rfl) ?_
                                refine pw_getR (b := 154) h19I E (c := 125) (k := 18) (pc' := 136) rfl rfl rfl rfl rfl rfl rfl ?_
                                refine pw_bip E (pc' := 138) rfl rfl (by decide) ?_
                                refine pw_ld E (pc' := 140) (st' := [pw_i k51_6, pw_i 12, .ref 154]) rfl (fun _ => rfl) ?_
                                refine pw_mul E (pc' := 141) rfl rfl ?_
                                refine pw_ld E (pc' := 142) (st' := [pw_i e, pw_i (12 * k51_6), .ref 154]) rfl (fun _ => rfl) ?_
                                refine pw_add E (pc' := 143) rfl rfl ?_
                                refine pw_ald2 h19I E (c := 138) (pc' := 144) rfl rfl rfl (by decide) rfl (by decide) (by omega) (by omega) rfl (fun hf142a hf142b => ?_)
                                refine pw_ld E (pc' := 145) (st' := [pw_i 2, pw_i (pw_g h19 138 (((12 * k51_6) + e).toNat))]) rfl (fun _ => rfl) ?_
                                refine pw_if2 E (pc' := 152) rfl (by decide) (by omega) (by omega) (by decide) (by decide) ?_ ?_
                                · intro hc143
                                  change pw_g h19 138 (((12 * k51_6) + e).toNat) ≠ (2 : Int) at hc143
                                  refine pw_ld E (pc' := 153) (st' := [pw_i 0]) rfl (fun _ => rfl) ?_
                                  refine pw_ist E (pc' := 155) (ls' := [some (.ref 141), some (pw_i bk), some (pw_i b), some (pw_i e), some (pw_i wt), some (pw_i k51_5), some (pw_i k51_6), some (pw_i 1), some (pw_i 0), some (pw_i 0), some (pw_i 0)]) rfl rfl rfl rfl ?_
                                  refine pw_ld E (pc' := 157) (st' := [pw_i wt]) rfl (fun _ => rfl) ?_
                                  refine pw_ld E (pc' := 158) (st' := [pw_i 4, pw_i wt]) rfl (fun _ => rfl) ?_
                                  refine pw_if2 E (pc' := 186) rfl (by decide) (by omega) (by omega) (by decide) (by decide) ?_ ?_
                                  · intro hc144
                                    change wt ≠ (4 : Int) at hc144
                                    refine pw_ld E (pc' := 188) (st' := [pw_i wt]) rfl (fun _ => rfl) ?_
                                    refine pw_ld E (pc' := 189) (st' := [pw_i 2, pw_i wt]) rfl (fun _ => rfl) ?_
                                    refine pw_if2 E (pc' := 225) rfl (by decide) (by omega) (by omega) (by decide) (by decide) ?_ ?_
                                    · intro hc145
                                      change (2 : Int) ≤ wt at hc145
                                      refine pw_ld E (pc' := 227) (st' := [pw_i k51_5]) rfl (fun _ => rfl) ?_
                                      refine pw_ld E (pc' := 229) (st' := [pw_i 0, pw_i k51_5]) rfl (fun _ => rfl) ?_
                                      refine pw_if E (pc' := 265) rfl (by decide) (by decide) (by decide) ?_ ?_
                                      · intro hc146
                                        change (0 : Int) = (0 : Int) at hc146
                                        refine pw_ld E (pc' := 266) (st' := [pw_i 0, pw_i k51_5]) rfl (fun _ => rfl) ?_
                                        refine pw_add E (pc' := 267) rfl rfl ?_
                                        refine pw_ist E (pc' := 269) (ls' := [some (.ref 141), some (pw_i bk), some (pw_i b), some (pw_i e), some (pw_i wt), some (pw_i (k51_5 + 0)), some (pw_i k51_6), some (pw_i 1), some (pw_i 0), some (pw_i 0), some (pw_i 0)]) rfl rfl rfl rfl ?_
                                        refine pw_inc E (pc' := 272) (ls' := [some (.ref 141), some (pw_i bk), some (pw_i b), some (pw_i e), some (pw_i wt), some (pw_i (k51_5 + 0)), some (pw_i (k51_6 + 1)), some (pw_i 1), some (pw_i 0), some (pw_i 0), some (pw_i 0)]) rfl rfl rfl rfl ?_
                                        refine pw_goto E (pc' := 51) rfl (by decide) ?_
                                        exact ih51 _ (by omega) (k51_5 + 0) (k51_6 + 1) (some (pw_i 1)) (some (pw_i 0)) (some (pw_i 0)) (some (pw_i 0))  (by omega) (by omega) (by omega) (by omega)  rfl
                                      · intro hc147
                                        change ¬ ((0 : Int) = (0 : Int)) at hc147
                                        exfalso; omega
                                    · intro hc148
                                      change ¬ ((2 : Int) ≤ wt) at hc148
                                      refine pw_ld E (pc' := 194) (st' := [pw_i k51_5]) rfl (fun _ => rfl) ?_
                                      refine pw_ld E (pc' := 196) (st' := [pw_i 1, pw_i k51_5]) rfl (fun _ => rfl) ?_
                                      refine pw_if E (pc' := 218) rfl (by decide) (by decide) (by decide) ?_ ?_
                                      · intro hc149
                                        change (1 : Int) = (0 : Int) at hc149
                                        exfalso; omega
                                      · intro hc150
                                        change ¬ ((1 : Int) = (0 : Int)) at hc150
                                        refine pw_ld E (pc' := 201) (st' := [pw_i 0, pw_i k51_5]) rfl (fun _ => rfl) ?_
                                        refine pw_ld E (pc' := 203) (st' := [pw_i wt, pw_i 0, pw_i k51_5]) rfl (fun _ => rfl) ?_
                                        refine pw_if E (pc' := 210) rfl (by decide) (by omega) (by omega) ?_ ?_
                                        · intro hc151
                                          change wt ≠ (0 : Int) at hc151
                                          refine pw_ld E (pc' := 211) (st' := [pw_i 0, pw_i 0, pw_i k51_5]) rfl (fun _ => rfl) ?_
                                          refine pw_if2 E (pc' := 218) rfl (by decide) (by decide) (by decide) (by decide) (by decide) ?_ ?_
                                          · intro hc152
                                            change (0 : Int) ≠ (0 : Int) at hc152
                                            exfalso; omega
                                          · intro hc153
                                            change ¬ ((0 : Int) ≠ (0 : Int)) at hc153
                                            refine pw_ld E (pc' := 215) (st' := [pw_i 1, pw_i k51_5]) rfl (fun _ => rfl) ?_
                                            refine pw_goto E (pc' := 219) rfl (by decide) ?_
                                            refine pw_add E (pc' := 220) rfl rfl ?_
                                            refine pw_nm (fun x154 hx154a hx154b => ?_)
                                            refine pw_ist E (pc' := 222) (ls' := [some (.ref 141), some (pw_i bk), some (pw_i b), some (pw_i e), some (pw_i wt), some (pw_i x154), some (pw_i k51_6), some (pw_i 1), some (pw_i 0), some (pw_i 0), some (pw_i 0)]) rfl rfl rfl rfl ?_
                                            refine pw_goto E (pc' := 269) rfl (by decide) ?_
                                            refine pw_inc E (pc' := 272) (ls' := [some (.ref 141), some (pw_i bk), some (pw_i b), some (pw_i e), some (pw_i wt), some (pw_i x154), some (pw_i (k51_6 + 1)), some (pw_i 1), some (pw_i 0), some (pw_i 0), some (pw_i 0)]) rfl rfl rfl rfl ?_
                                            refine pw_goto E (pc' := 51) rfl (by decide) ?_
                                            exact ih51 _ (by omega) (x154) (k51_6 + 1) (some (pw_i 1)) (some (pw_i 0)) (some (pw_i 0)) (some (pw_i 0))  (by omega) (by omega) (by omega) (by omega)  rfl
                                        · intro hc155
                                          change ¬ (wt ≠ (0 : Int)) at hc155
                                          refine pw_ld E (pc' := 207) (st' := [pw_i 1, pw_i 0, pw_i k51_5]) rfl (fun _ => rfl) ?_
                                          refine pw_goto E (pc' := 211) rfl (by decide) ?_
                                          refine pw_if2 E (pc' := 218) rfl (by decide) (by decide) (by decide) (by decide) (by decide) ?_ ?_
                                          · intro hc156
                                            change (0 : Int) ≠ (1 : Int) at hc156
                                            refine pw_ld E (pc' := 219) (st' := [pw_i 0, pw_i k51_5]) rfl (fun _ => rfl) ?_
                                            refine pw_add E (pc' := 220) rfl rfl ?_
                                            refine pw_ist E (pc' := 222) (ls' := [some (.ref 141), some (pw_i bk), some (pw_i b), some (pw_i e), some (pw_i wt), some (pw_i (k51_5 + 0)), some (pw_i k51_6), some (pw_i 1), some (pw_i 0), some (pw_i 0), some (pw_i 0)]) rfl rfl rfl rfl ?_
                                            refine pw_goto E (pc' := 269) rfl (by decide) ?_
                                            refine pw_inc E (pc' := 272) (ls' := [some (.ref 141), some (pw_i bk), some (pw_i b), some (pw_i e), some (pw_i wt), some (pw_i (k51_5 + 0)), some (pw_i (k51_6 + 1)), some (pw_i 1), some (pw_i 0), some (pw_i 0), some (pw_i 0)]) rfl rfl rfl rfl ?_
                                            refine pw_goto E (pc' := 51) rfl (by decide) ?_
                                            exact ih51 _ (by omega) (k51_5 + 0) (k51_6 + 1) (some (pw_i 1)) (some (pw_i 0)) (some (pw_i 0)) (some (pw_i 0))  (by omega) (by omega) (by omega) (by omega)  rfl
                                          · intro hc157
                                            change ¬ ((0 : Int) ≠ (1 : Int)) at hc157
                                            exfalso; omega
                                  · intro hc158
                                    change ¬ (wt ≠ (4 : Int)) at hc158
                                    refine pw_ld E (pc' := 163) (st' := [pw_i k51_5]) rfl (fun _ => rfl) ?_
                                    refine pw_ld E (pc' := 165) (st' := [pw_i 0, pw_i k51_5]) rfl (fun _ => rfl) ?_
                                    refine pw_if E (pc' := 179) rfl (by decide) (by decide) (by decide) ?_ ?_
                                    · intro hc159
                                      change (0 : Int) = (0 : Int) at hc159
                                      refine pw_ld E (pc' := 180) (st' := [pw_i 0, pw_i k51_5]) rfl (fun _ => rfl) ?_
                                      refine pw_add E (pc' := 181) rfl rfl ?_
                                      refine pw_ist E (pc' := 183) (ls' := [some (.ref 141), some (pw_i bk), some (pw_i b), some (pw_i e), some (pw_i wt), some (pw_i (k51_5 + 0)), some (pw_i k51_6), some (pw_i 1), some (pw_i 0), some (pw_i 0), some (pw_i 0)]) rfl rfl rfl rfl ?_
                                      refine pw_goto E (pc' := 269) rfl (by decide) ?_
                                      refine pw_inc E (pc' := 272) (ls' := [some (.ref 141), some (pw_i bk), some (pw_i b), some (pw_i e), some (pw_i wt), some (pw_i (k51_5 + 0)), some (pw_i (k51_6 + 1)), some (pw_i 1), some (pw_i 0), some (pw_i 0), some (pw_i 0)]) rfl rfl rfl rfl ?_
                                      refine pw_goto E (pc' := 51) rfl (by decide) ?_
                                      exact ih51 _ (by omega) (k51_5 + 0) (k51_6 + 1) (some (pw_i 1)) (some (pw_i 0)) (some (pw_i 0)) (some (pw_i 0))  (by omega) (by omega) (by omega) (by omega)  rfl
                                    · intro hc160
                                      change ¬ ((0 : Int) = (0 : Int)) at hc160
                                      exfalso; omega
                                · intro hc161
                                  change ¬ (pw_g h19 138 (((12 * k51_6) + e).toNat) ≠ (2 : Int)) at hc161
                                  refine pw_ld E (pc' := 149) (st' := [pw_i 1]) rfl (fun _ => rfl) ?_
                                  refine pw_goto E (pc' := 153) rfl (by decide) ?_
                                  refine pw_ist E (pc' := 155) (ls' := [some (.ref 141), some (pw_i bk), some (pw_i b), some (pw_i e), some (pw_i wt), some (pw_i k51_5), some (pw_i k51_6), some (pw_i 1), some (pw_i 0), some (pw_i 0), some (pw_i 1)]) rfl rfl rfl rfl ?_
                                  refine pw_ld E (pc' := 157) (st' := [pw_i wt]) rfl (fun _ => rfl) ?_
                                  refine pw_ld E (pc' := 158) (st' := [pw_i 4, pw_i wt]) rfl (fun _ => rfl) ?_
                                  refine pw_if2 E (pc' := 186) rfl (by decide) (by omega) (by omega) (by decide) (by decide) ?_ ?_
                                  · intro hc162
                                    change wt ≠ (4 : Int) at hc162
                                    refine pw_ld E (pc' := 188) (st' := [pw_i wt]) rfl (fun _ => rfl) ?_
                                    refine pw_ld E (pc' := 189) (st' := [pw_i 2, pw_i wt]) rfl (fun _ => rfl) ?_
                                    refine pw_if2 E (pc' := 225) rfl (by decide) (by omega) (by omega) (by decide) (by decide) ?_ ?_
                                    · intro hc163
                                      change (2 : Int) ≤ wt at hc163
                                      refine pw_ld E (pc' := 227) (st' := [pw_i k51_5]) rfl (fun _ => rfl) ?_
                                      refine pw_ld E (pc' := 229) (st' := [pw_i 0, pw_i k51_5]) rfl (fun _ => rfl) ?_
                                      refine pw_if E (pc' := 265) rfl (by decide) (by decide) (by decide) ?_ ?_
                                      · intro hc164
                                        change (0 : Int) = (0 : Int) at hc164
                                        refine pw_ld E (pc' := 266) (st' := [pw_i 0, pw_i k51_5]) rfl (fun _ => rfl) ?_
                                        refine pw_add E (pc' := 267) rfl rfl ?_
                                        refine pw_ist E (pc' := 269) (ls' := [some (.ref 141), some (pw_i bk), some (pw_i b), some (pw_i e), some (pw_i wt), some (pw_i (k51_5 + 0)), some (pw_i k51_6), some (pw_i 1), some (pw_i 0), some (pw_i 0), some (pw_i 1)]) rfl rfl rfl rfl ?_
                                        refine pw_inc E (pc' := 272) (ls' := [some (.ref 141), some (pw_i bk), some (pw_i b), some (pw_i e), some (pw_i wt), some (pw_i (k51_5 + 0)), some (pw_i (k51_6 + 1)), some (pw_i 1), some (pw_i 0), some (pw_i 0), some (pw_i 1)]) rfl rfl rfl rfl ?_
                                        refine pw_goto E (pc' := 51) rfl (by decide) ?_
                                        exact ih51 _ (by omega) (k51_5 + 0) (k51_6 + 1) (some (pw_i 1)) (some (pw_i 0)) (some (pw_i 0)) (some (pw_i 1))  (by omega) (by omega) (by omega) (by omega)  rfl
                                      · intro hc165
                                        change ¬ ((0 : Int) = (0 : Int)) at hc165
                                        exfalso; omega
                                    · intro hc166
                                      change ¬ ((2 : Int) ≤ wt) at hc166
                                      refine pw_ld E (pc' := 194) (st' := [pw_i k51_5]) rfl (fun _ => rfl) ?_
                                      refine pw_ld E (pc' := 196) (st' := [pw_i 1, pw_i k51_5]) rfl (fun _ => rfl) ?_
                                      refine pw_if E (pc' := 218) rfl (by decide) (by decide) (by decide) ?_ ?_
                                      · intro hc167
                                        change (1 : Int) = (0 : Int) at hc167
                                        exfalso; omega
                                      · intro hc168
                                        change ¬ ((1 : Int) = (0 : Int)) at hc168
                                        refine pw_ld E (pc' := 201) (st' := [pw_i 0, pw_i k51_5]) rfl (fun _ => rfl) ?_
                                        refine pw_ld E (pc' := 203) (st' := [pw_i wt, pw_i 0, pw_i k51_5]) rfl (fun _ => rfl) ?_
                                        refine pw_if E (pc' := 210) rfl (by decide) (by omega) (by omega) ?_ ?_
                                        · intro hc169
                                          change wt ≠ (0 : Int) at hc169
                                          refine pw_ld E (pc' := 211) (st' := [pw_i 0, pw_i 0, pw_i k51_5]) rfl (fun _ => rfl) ?_
                                          refine pw_if2 E (pc' := 218) rfl (by decide) (by decide) (by decide) (by decide) (by decide) ?_ ?_
                                          · intro hc170
                                            change (0 : Int) ≠ (0 : Int) at hc170
                                            exfalso; omega
                                          · intro hc171
                                            change ¬ ((0 : Int) ≠ (0 : Int)) at hc171
                                            refine pw_ld E (pc' := 215) (st' := [pw_i 1, pw_i k51_5]) rfl (fun _ => rfl) ?_
                                            refine pw_goto E (pc' := 219) rfl (by decide) ?_
                                            refine pw_add E (pc' := 220) rfl rfl ?_
                                            refine pw_nm (fun x172 hx172a hx172b => ?_)
                                            refine pw_ist E (pc' := 222) (ls' := [some (.ref 141), some (pw_i bk), some (pw_i b), some (pw_i e), some (pw_i wt), some (pw_i x172), some (pw_i k51_6), some (pw_i 1), some (pw_i 0), some (pw_i 0), some (pw_i 1)]) rfl rfl rfl rfl ?_
                                            refine pw_goto E (pc' := 269) rfl (by decide) ?_
                                            refine pw_inc E (pc' := 272) (ls' := [some (.ref 141), some (pw_i bk), some (pw_i b), some (pw_i e), some (pw_i wt), some (pw_i x172), some (pw_i (k51_6 + 1)), some (pw_i 1), some (pw_i 0), some (pw_i 0), some (pw_i 1)]) rfl rfl rfl rfl ?_
                                            refine pw_goto E (pc' := 51) rfl (by decide) ?_
                                            exact ih51 _ (by omega) (x172) (k51_6 + 1) (some (pw_i 1)) (some (pw_i 0)) (some (pw_i 0)) (some (pw_i 1))  (by omega) (by omega) (by omega) (by omega)  rfl
                                        · intro hc173
                                          change ¬ (wt ≠ (0 : Int)) at hc173
                                          refine pw_ld E (pc' := 207) (st' := [pw_i 1, pw_i 0, pw_i k51_5]) rfl (fun _ => rfl) ?_
                                          refine pw_goto E (pc' := 211) rfl (by decide) ?_
                                          refine pw_if2 E (pc' := 218) rfl (by decide) (by decide) (by decide) (by decide) (by decide) ?_ ?_
                                          · intro hc174
                                            change (0 : Int) ≠ (1 : Int) at hc174
                                            refine pw_ld E (pc' := 219) (st' := [pw_i 0, pw_i k51_5]) rfl (fun _ => rfl) ?_
                                            refine pw_add E (pc' := 220) rfl rfl ?_
                                            refine pw_ist E (pc' := 222) (ls' := [some (.ref 141), some (pw_i bk), some (pw_i b), some (pw_i e), some (pw_i wt), some (pw_i (k51_5 + 0)), some (pw_i k51_6), some (pw_i 1), some (pw_i 0), some (pw_i 0), some (pw_i 1)]) rfl rfl rfl rfl ?_
                                            refine pw_goto E (pc' := 269) rfl (by decide) ?_
                                            refine pw_inc E (pc' := 272) (ls' := [some (.ref 141), some (pw_i bk), some (pw_i b), some (pw_i e), some (pw_i wt), some (pw_i (k51_5 + 0)), some (pw_i (k51_6 + 1)), some (pw_i 1), some (pw_i 0), some (pw_i 0), some (pw_i 1)]) rfl rfl rfl rfl ?_
                                            refine pw_goto E (pc' := 51) rfl (by decide) ?_
                                            exact ih51 _ (by omega) (k51_5 + 0) (k51_6 + 1) (some (pw_i 1)) (some (pw_i 0)) (some (pw_i 0)) (some (pw_i 1))  (by omega) (by omega) (by omega) (by omega)  rfl
                                          · intro hc175
                                            change ¬ ((0 : Int) ≠ (1 : Int)) at hc175
                                            exfalso; omega
                                  · intro hc176
                                    change ¬ (wt ≠ (4 : Int)) at hc176
                                    refine pw_ld E (pc' := 163) (st' := [pw_i k51_5]) rfl (fun _ => rfl) ?_
                                    refine pw_ld E (pc' := 165) (st' := [pw_i 0, pw_i k51_5]) rfl (fun _ => rfl) ?_
                                    refine pw_if E (pc' := 179) rfl (by decide) (by decide) (by decide) ?_ ?_
                                    · intro hc177
                                      change (0 : Int) = (0 : Int) at hc177
                                      refine pw_ld E (pc' := 180) (st' := [pw_i 0, pw_i k51_5]) rfl (fun _ => rfl) ?_
                                      refine pw_add E (pc' := 181) rfl rfl ?_
                                      refine pw_ist E (pc' := 183) (ls' := [some (.ref 141), some (pw_i bk), some (pw_i b), some (pw_i e), some (pw_i wt), some (pw_i (k51_5 + 0)), some (pw_i k51_6), some (pw_i 1), some (pw_i 0), some (pw_i 0), some (pw_i 1)]) rfl rfl rfl rfl ?_
                                      refine pw_goto E (pc' := 269) rfl (by decide) ?_
                                      refine pw_inc E (pc' := 272) (ls' := [some (.ref 141), some (pw_i bk), some (pw_i b), some (pw_i e), some (pw_i wt), some (pw_i (k51_5 + 0)), some (pw_i (k51_6 + 1)), some (pw_i 1), some (pw_i 0), some (pw_i 0), some (pw_i 1)]) rfl rfl rfl rfl ?_
                                      refine pw_goto E (pc' := 51) rfl (by decide) ?_
                                      exact ih51 _ (by omega) (k51_5 + 0) (k51_6 + 1) (some (pw_i 1)) (some (pw_i 0)) (some (pw_i 0)) (some (pw_i 1))  (by omega) (by omega) (by omega) (by omega)  rfl
                                    · intro hc178
                                      change ¬ ((0 : Int) = (0 : Int)) at hc178
                                      exfalso; omega
                              · intro hc179
                                change ¬ (pw_g h19 138 (((12 * k51_6) + b).toNat) ≠ (2 : Int)) at hc179
                                refine pw_ld E (pc' := 126) (st' := [pw_i 1]) rfl (fun _ => rfl) ?_
                                refine pw_goto E (pc' := 130) rfl (by decide) ?_
                                refine pw_ist E (pc' := 132) (ls' := [some (.ref 141), some (pw_i bk), some (pw_i b), some (pw_i e), some (pw_i wt), some (pw_i k51_5), some (pw_i k51_6), some (pw_i 1), some (pw_i 0), some (pw_i 1), k51_10]) rfl rfl rfl rfl ?_
                                refine pw_ld E (pc' := 133) (st' := [.ref 141]) rfl (fun _ => rfl) ?_
                                refine pw_getR (b := 154) h19I E (c := 125) (k := 18) (pc' := 136) rfl rfl rfl rfl rfl rfl rfl ?_
                                refine pw_bip E (pc' := 138) rfl rfl (by decide) ?_
                                refine pw_ld E (pc' := 140) (st' := [pw_i k51_6, pw_i 12, .ref 154]) rfl (fun _ => rfl) ?_
                                refine pw_mul E (pc' := 141) rfl rfl ?_
                                refine pw_ld E (pc' := 142) (st' := [pw_i e, pw_i (12 * k51_6), .ref 154]) rfl (fun _ => rfl) ?_
                                refine pw_add E (pc' := 143) rfl rfl ?_
                                refine pw_ald2 h19I E (c := 138) (pc' := 144) rfl rfl rfl (by decide) rfl (by decide) (by omega) (by omega) rfl (fun hf180a hf180b => ?_)
                                refine pw_ld E (pc' := 145) (st' := [pw_i 2, pw_i (pw_g h19 138 (((12 * k51_6) + e).toNat))]) rfl (fun _ => rfl) ?_
                                refine pw_if2 E (pc' := 152) rfl (by decide) (by omega) (by omega) (by decide) (by decide) ?_ ?_
                                · intro hc181
                                  change pw_g h19 138 (((12 * k51_6) + e).toNat) ≠ (2 : Int) at hc181
                                  refine pw_ld E (pc' := 153) (st' := [pw_i 0]) rfl (fun _ => rfl) ?_
                                  refine pw_ist E (pc' := 155) (ls' := [some (.ref 141), some (pw_i bk), some (pw_i b), some (pw_i e), some (pw_i wt), some (pw_i k51_5), some (pw_i k51_6), some (pw_i 1), some (pw_i 0), some (pw_i 1), some (pw_i 0)]) rfl rfl rfl rfl ?_
                                  refine pw_ld E (pc' := 157) (st' := [pw_i wt]) rfl (fun _ => rfl) ?_
                                  refine pw_ld E (pc' := 158) (st' := [pw_i 4, pw_i wt]) rfl (fun _ => rfl) ?_
                                  refine pw_if2 E (pc' := 186) rfl (by decide) (by omega) (by omega) (by decide) (by decide) ?_ ?_
                                  · intro hc182
                                    change wt ≠ (4 : Int) at hc182
                                    refine pw_ld E (pc' := 188) (st' := [pw_i wt]) rfl (fun _ => rfl) ?_
                                    refine pw_ld E (pc' := 189) (st' := [pw_i 2, pw_i wt]) rfl (fun _ => rfl) ?_
                                    refine pw_if2 E (pc' := 225) rfl (by decide) (by omega) (by omega) (by decide) (by decide) ?_ ?_
                                    · intro hc183
                                      change (2 : Int) ≤ wt at hc183
                                      refine pw_ld E (pc' := 227) (st' := [pw_i k51_5]) rfl (fun _ => rfl) ?_
                                      refine pw_ld E (pc' := 229) (st' := [pw_i 0, pw_i k51_5]) rfl (fun _ => rfl) ?_
                                      refine pw_if E (pc' := 265) rfl (by decide) (by decide) (by decide) ?_ ?_
                                      · intro hc184
                                        change (0 : Int) = (0 : Int) at hc184
                                        refine pw_ld E (pc' := 266) (st' := [pw_i 0, pw_i k51_5]) rfl (fun _ => rfl) ?_
                                        refine pw_add E (pc' := 267) rfl rfl ?_
                                        refine pw_ist E (pc' := 269) (ls' := [some (.ref 141), some (pw_i bk), some (pw_i b), some (pw_i e), some (pw_i wt), some (pw_i (k51_5 + 0)), some (pw_i k51_6), some (pw_i 1), some (pw_i 0), some (pw_i 1), some (pw_i 0)]) rfl rfl rfl rfl ?_
                                        refine pw_inc E (pc' := 272) (ls' := [some (.ref 141), some (pw_i bk), some (pw_i b), some (pw_i e), some (pw_i wt), some (pw_i (k51_5 + 0)), some (pw_i (k51_6 + 1)), some (pw_i 1), some (pw_i 0), some (pw_i 1), some (pw_i 0)]) rfl rfl rfl rfl ?_
                                        refine pw_goto E (pc' := 51) rfl (by decide) ?_
                                        exact ih51 _ (by omega) (k51_5 + 0) (k51_6 + 1) (some (pw_i 1)) (some (pw_i 0)) (some (pw_i 1)) (some (pw_i 0))  (by omega) (by omega) (by omega) (by omega)  rfl
                                      · intro hc185
                                        change ¬ ((0 : Int) = (0 : Int)) at hc185
                                        exfalso; omega
                                    · intro hc186
                                      change ¬ ((2 : Int) ≤ wt) at hc186
                                      refine pw_ld E (pc' := 194) (st' := [pw_i k51_5]) rfl (fun _ => rfl) ?_
                                      refine pw_ld E (pc' := 196) (st' := [pw_i 1, pw_i k51_5]) rfl (fun _ => rfl) ?_
                                      refine pw_if E (pc' := 218) rfl (by decide) (by decide) (by decide) ?_ ?_
                                      · intro hc187
                                        change (1 : Int) = (0 : Int) at hc187
                                        exfalso; omega
                                      · intro hc188
                                        change ¬ ((1 : Int) = (0 : Int)) at hc188
                                        refine pw_ld E (pc' := 201) (st' := [pw_i 0, pw_i k51_5]) rfl (fun _ => rfl) ?_
                                        refine pw_ld E (pc' := 203) (st' := [pw_i wt, pw_i 0, pw_i k51_5]) rfl (fun _ => rfl) ?_
                                        refine pw_if E (pc' := 210) rfl (by decide) (by omega) (by omega) ?_ ?_
                                        · intro hc189
                                          change wt ≠ (0 : Int) at hc189
                                          refine pw_ld E (pc' := 211) (st' := [pw_i 0, pw_i 0, pw_i k51_5]) rfl (fun _ => rfl) ?_
                                          refine pw_if2 E (pc' := 218) rfl (by decide) (by decide) (by decide) (by decide) (by decide) ?_ ?_
                                          · intro hc190
                                            change (0 : Int) ≠ (0 : Int) at hc190
                                            exfalso; omega
                                          · intro hc191
                                            change ¬ ((0 : Int) ≠ (0 : Int)) at hc191
                                            refine pw_ld E (pc' := 215) (st' := [pw_i 1, pw_i k51_5]) rfl (fun _ => rfl) ?_
                                            refine pw_goto E (pc' := 219) rfl (by decide) ?_
                                            refine pw_add E (pc' := 220) rfl rfl ?_
                                            refine pw_nm (fun x192 hx192a hx192b => ?_)
                                            refine pw_ist E (pc' := 222) (ls' := [some (.ref 141), some (pw_i bk), some (pw_i b), some (pw_i e), some (pw_i wt), some (pw_i x192), some (pw_i k51_6), some (pw_i 1), some (pw_i 0), some (pw_i 1), some (pw_i 0)]) rfl rfl rfl rfl ?_
                                            refine pw_goto E (pc' := 269) rfl (by decide) ?_
                                            refine pw_inc E (pc' := 272) (ls' := [some (.ref 141), some (pw_i bk), some (pw_i b), some (pw_i e), some (pw_i wt), some (pw_i x192), some (pw_i (k51_6 + 1)), some (pw_i 1), some (pw_i 0), some (pw_i 1), some (pw_i 0)]) rfl rfl rfl rfl ?_
                                            refine pw_goto E (pc' := 51) rfl (by decide) ?_
                                            exact ih51 _ (by omega) (x192) (k51_6 + 1) (some (pw_i 1)) (some (pw_i 0)) (some (pw_i 1)) (some (pw_i 0))  (by omega) (by omega) (by omega) (by omega)  rfl
                                        · intro hc193
                                          change ¬ (wt ≠ (0 : Int)) at hc193
                                          refine pw_ld E (pc' := 207) (st' := [pw_i 1, pw_i 0, pw_i k51_5]) rfl (fun _ => rfl) ?_
                                          refine pw_goto E (pc' := 211) rfl (by decide) ?_
                                          refine pw_if2 E (pc' := 218) rfl (by decide) (by decide) (by decide) (by decide) (by decide) ?_ ?_
                                          · intro hc194
                                            change (0 : Int) ≠ (1 : Int) at hc194
                                            refine pw_ld E (pc' := 219) (st' := [pw_i 0, pw_i k51_5]) rfl (fun _ => rfl) ?_
                                            refine pw_add E (pc' := 220) rfl rfl ?_
                                            refine pw_ist E (pc' := 222) (ls' := [some (.ref 141), some (pw_i bk), some (pw_i b), some (pw_i e), some (pw_i wt), some (pw_i (k51_5 + 0)), some (pw_i k51_6), some (pw_i 1), some (pw_i 0), some (pw_i 1), some (pw_i 0)]) rfl rfl rfl rfl ?_
                                            refine pw_goto E (pc' := 269) rfl (by decide) ?_
                                            refine pw_inc E (pc' := 272) (ls' := [some (.ref 141), some (pw_i bk), some (pw_i b), some (pw_i e), some (pw_i wt), some (pw_i (k51_5 + 0)), some (pw_i (k51_6 + 1)), some (pw_i 1), some (pw_i 0), some (pw_i 1), some (pw_i 0)]) rfl rfl rfl rfl ?_
                                            refine pw_goto E (pc' := 51) rfl (by decide) ?_
                                            exact ih51 _ (by omega) (k51_5 + 0) (k51_6 + 1) (some (pw_i 1)) (some (pw_i 0)) (some (pw_i 1)) (some (pw_i 0))  (by omega) (by omega) (by omega) (by omega)  rfl
                                          · intro hc195
                                            change ¬ ((0 : Int) ≠ (1 : Int)) at hc195
                                            exfalso; omega
                                  · intro hc196
                                    change ¬ (wt ≠ (4 : Int)) at hc196
                                    refine pw_ld E (pc' := 163) (st' := [pw_i k51_5]) rfl (fun _ => rfl) ?_
                                    refine pw_ld E (pc' := 165) (st' := [pw_i 0, pw_i k51_5]) rfl (fun _ => rfl) ?_
                                    refine pw_if E (pc' := 179) rfl (by decide) (by decide) (by decide) ?_ ?_
                                    · intro hc197
                                      change (0 : Int) = (0 : Int) at hc197
                                      refine pw_ld E (pc' := 180) (st' := [pw_i 0, pw_i k51_5]) rfl (fun _ => rfl) ?_
                                      refine pw_add E (pc' := 181) rfl rfl ?_
                                      refine pw_ist E (pc' := 183) (ls' := [some (.ref 141), some (pw_i bk), some (pw_i b), some (pw_i e), some (pw_i wt), some (pw_i (k51_5 + 0)), some (pw_i k51_6), some (pw_i 1), some (pw_i 0), some (pw_i 1), some (pw_i 0)]) rfl rfl rfl rfl ?_
                                      refine pw_goto E (pc' := 269) rfl (by decide) ?_
                                      refine pw_inc E (pc' := 272) (ls' := [some (.ref 141), some (pw_i bk), some (pw_i b), some (pw_i e), some (pw_i wt), some (pw_i (k51_5 + 0)), some (pw_i (k51_6 + 1)), some (pw_i 1), some (pw_i 0), some (pw_i 1), some (pw_i 0)]) rfl rfl rfl rfl ?_
                                      refine pw_goto E (pc' := 51) rfl (by decide) ?_
                                      exact ih51 _ (by omega) (k51_5 + 0) (k51_6 + 1) (some (pw_i 1)) (some (pw_i 0)) (some (pw_i 1)) (some (pw_i 0))  (by omega) (by omega) (by omega) (by omega)  rfl
                                    · intro hc198
                                      change ¬ ((0 : Int) = (0 : Int)) at hc198
                                      exfalso; omega
                                · intro hc199
                                  change ¬ (pw_g h19 138 (((12 * k51_6) + e).toNat) ≠ (2 : Int)) at hc199
                                  refine pw_ld E (pc' := 149) (st' := [pw_i 1]) rfl (fun _ => rfl) ?_
                                  refine pw_goto E (pc' := 153) rfl (by decide) ?_
                                  refine pw_ist E (pc' := 155) (ls' := [some (.ref 141), some (pw_i bk), some (pw_i b), some (pw_i e), some (pw_i wt), some (pw_i k51_5), some (pw_i k51_6), some (pw_i 1), some (pw_i 0), some (pw_i 1), some (pw_i 1)]) rfl rfl rfl rfl ?_
                                  refine pw_ld E (pc' := 157) (st' := [pw_i wt]) rfl (fun _ => rfl) ?_
                                  refine pw_ld E (pc' := 158) (st' := [pw_i 4, pw_i wt]) rfl (fun _ => rfl) ?_
                                  refine pw_if2 E (pc' := 186) rfl (by decide) (by omega) (by omega) (by decide) (by decide) ?_ ?_
                                  · intro hc200
                                    change wt ≠ (4 : Int) at hc200
                                    refine pw_ld E (pc' := 188) (st' := [pw_i wt]) rfl (fun _ => rfl) ?_
                                    refine pw_ld E (pc' := 189) (st' := [pw_i 2, pw_i wt]) rfl (fun _ => rfl) ?_
                                    refine pw_if2 E (pc' := 225) rfl (by decide) (by omega) (by omega) (by decide) (by decide) ?_ ?_
                                    · intro hc201
                                      change (2 : Int) ≤ wt at hc201
                                      refine pw_ld E (pc' := 227) (st' := [pw_i k51_5]) rfl (fun _ => rfl) ?_
                                      refine pw_ld E (pc' := 229) (st' := [pw_i 0, pw_i k51_5]) rfl (fun _ => rfl) ?_
                                      refine pw_if E (pc' := 265) rfl (by decide) (by decide) (by decide) ?_ ?_
                                      · intro hc202
                                        change (0 : Int) = (0 : Int) at hc202
                                        refine pw_ld E (pc' := 266) (st' := [pw_i 0, pw_i k51_5]) rfl (fun _ => rfl) ?_
                                        refine pw_add E (pc' := 267) rfl rfl ?_
                                        refine pw_ist E (pc' := 269) (ls' := [some (.ref 141), some (pw_i bk), some (pw_i b), some (pw_i e), some (pw_i wt), some (pw_i (k51_5 + 0)), some (pw_i k51_6), some (pw_i 1), some (pw_i 0), some (pw_i 1), some (pw_i 1)]) rfl rfl rfl rfl ?_
                                        refine pw_inc E (pc' := 272) (ls' := [some (.ref 141), some (pw_i bk), some (pw_i b), some (pw_i e), some (pw_i wt), some (pw_i (k51_5 + 0)), some (pw_i (k51_6 + 1)), some (pw_i 1), some (pw_i 0), some (pw_i 1), some (pw_i 1)]) rfl rfl rfl rfl ?_
                                        refine pw_goto E (pc' := 51) rfl (by decide) ?_
                                        exact ih51 _ (by omega) (k51_5 + 0) (k51_6 + 1) (some (pw_i 1)) (some (pw_i 0)) (some (pw_i 1)) (some (pw_i 1))  (by omega) (by omega) (by omega) (by omega)  rfl
                                      · intro hc203
                                        change ¬ ((0 : Int) = (0 : Int)) at hc203
                                        exfalso; omega
                                    · intro hc204
                                      change ¬ ((2 : Int) ≤ wt) at hc204
                                      refine pw_ld E (pc' := 194) (st' := [pw_i k51_5]) rfl (fun _ => rfl) ?_
                                      refine pw_ld E (pc' := 196) (st' := [pw_i 1, pw_i k51_5]) rfl (fun _ => rfl) ?_
                                      refine pw_if E (pc' := 218) rfl (by decide) (by decide) (by decide) ?_ ?_
                                      · intro hc205
                                        change (1 : Int) = (0 : Int) at hc205
                                        exfalso; omega
                                      · intro hc206
                                        change ¬ ((1 : Int) = (0 : Int)) at hc206
                                        refine pw_ld E (pc' := 201) (st' := [pw_i 0, pw_i k51_5]) rfl (fun _ => rfl) ?_
                                        refine pw_ld E (pc' := 203) (st' := [pw_i wt, pw_i 0, pw_i k51_5]) rfl (fun _ => rfl) ?_
                                        refine pw_if E (pc' := 210) rfl (by decide) (by omega) (by omega) ?_ ?_
                                        · intro hc207
                                          change wt ≠ (0 : Int) at hc207
                                          refine pw_ld E (pc' := 211) (st' := [pw_i 0, pw_i 0, pw_i k51_5]) rfl (fun _ => rfl) ?_
                                          refine pw_if2 E (pc' := 218) rfl (by decide) (by decide) (by decide) (by decide) (by decide) ?_ ?_
                                          · intro hc208
                                            change (0 : Int) ≠ (0 : Int) at hc208
                                            exfalso; omega
                                          · intro hc209
                                            change ¬ ((0 : Int) ≠ (0 : Int)) at hc209
                                            refine pw_ld E (pc' := 215) (st' := [pw_i 1, pw_i k51_5]) rfl (fun _ => rfl) ?_
                                            refine pw_goto E (pc' := 219) rfl (by decide) ?_
                                            refine pw_add E (pc' := 220) rfl rfl ?_
                                            refine pw_nm (fun x210 hx210a hx210b => ?_)
                                            refine pw_ist E (pc' := 222) (ls' := [some (.ref 141), some (pw_i bk), some (pw_i b), some (pw_i e), some (pw_i wt), some (pw_i x210), some (pw_i k51_6), some (pw_i 1), some (pw_i 0), some (pw_i 1), some (pw_i 1)]) rfl rfl rfl rfl ?_
                                            refine pw_goto E (pc' := 269) rfl (by decide) ?_
                                            refine pw_inc E (pc' := 272) (ls' := [some (.ref 141), some (pw_i bk), some (pw_i b), some (pw_i e), some (pw_i wt), some (pw_i x210), some (pw_i (k51_6 + 1)), some (pw_i 1), some (pw_i 0), some (pw_i 1), some (pw_i 1)]) rfl rfl rfl rfl ?_
                                            refine pw_goto E (pc' := 51) rfl (by decide) ?_
                                            exact ih51 _ (by omega) (x210) (k51_6 + 1) (some (pw_i 1)) (some (pw_i 0)) (some (pw_i 1)) (some (pw_i 1))  (by omega) (by omega) (by omega) (by omega)  rfl
                                        · intro hc211
                                          change ¬ (wt ≠ (0 : Int)) at hc211
                                          refine pw_ld E (pc' := 207) (st' := [pw_i 1, pw_i 0, pw_i k51_5]) rfl (fun _ => rfl) ?_
                                          refine pw_goto E (pc' := 211) rfl (by decide) ?_
                                          refine pw_if2 E (pc' := 218) rfl (by decide) (by decide) (by decide) (by decide) (by decide) ?_ ?_
                                          · intro hc212
                                            change (0 : Int) ≠ (1 : Int) at hc212
                                            refine pw_ld E (pc' := 219) (st' := [pw_i 0, pw_i k51_5]) rfl (fun _ => rfl) ?_
                                            refine pw_add E (pc' := 220) rfl rfl ?_
                                            refine pw_ist E (pc' := 222) (ls' := [some (.ref 141), some (pw_i bk), some (pw_i b), some (pw_i e), some (pw_i wt), some (pw_i (k51_5 + 0)), some (pw_i k51_6), some (pw_i 1), some (pw_i 0), some (pw_i 1), some (pw_i 1)]) rfl rfl rfl rfl ?_
                                            refine pw_goto E (pc' := 269) rfl (by decide) ?_
                                            refine pw_inc E (pc' := 272) (ls' := [some (.ref 141), some (pw_i bk), some (pw_i b), some (pw_i e), some (pw_i wt), some (pw_i (k51_5 + 0)), some (pw_i (k51_6 + 1)), some (pw_i 1), some (pw_i 0), some (pw_i 1), some (pw_i 1)]) rfl rfl rfl rfl ?_
                                            refine pw_goto E (pc' := 51) rfl (by decide) ?_
                                            exact ih51 _ (by omega) (k51_5 + 0) (k51_6 + 1) (some (pw_i 1)) (some (pw_i 0)) (some (pw_i 1)) (some (pw_i 1))  (by omega) (by omega) (by omega) (by omega)  rfl
                                          · intro hc213
                                            change ¬ ((0 : Int) ≠ (1 : Int)) at hc213
                                            exfalso; omega
                                  · intro hc214
                                    change ¬ (wt ≠ (4 : Int)) at hc214
                                    refine pw_ld E (pc' := 163) (st' := [pw_i k51_5]) rfl (fun _ => rfl) ?_
                                    refine pw_ld E (pc' := 165) (st' := [pw_i 0, pw_i k51_5]) rfl (fun _ => rfl) ?_
                                    refine pw_if E (pc' := 179) rfl (by decide) (by decide) (by decide) ?_ ?_
                                    · intro hc215
                                      change (0 : Int) = (0 : Int) at hc215
                                      refine pw_ld E (pc' := 180) (st' := [pw_i 0, pw_i k51_5]) rfl (fun _ => rfl) ?_
                                      refine pw_add E (pc' := 181) rfl rfl ?_
                                      refine pw_ist E (pc' := 183) (ls' := [some (.ref 141), some (pw_i bk), some (pw_i b), some (pw_i e), some (pw_i wt), some (pw_i (k51_5 + 0)), some (pw_i k51_6), some (pw_i 1), some (pw_i 0), some (pw_i 1), some (pw_i 1)]) rfl rfl rfl rfl ?_
                                      refine pw_goto E (pc' := 269) rfl (by decide) ?_
                                      refine pw_inc E (pc' := 272) (ls' := [some (.ref 141), some (pw_i bk), some (pw_i b), some (pw_i e), some (pw_i wt), some (pw_i (k51_5 + 0)), some (pw_i (k51_6 + 1)), some (pw_i 1), some (pw_i 0), some (pw_i 1), some (pw_i 1)]) rfl rfl rfl rfl ?_
                                      refine pw_goto E (pc' := 51) rfl (by decide) ?_
                                      exact ih51 _ (by omega) (k51_5 + 0) (k51_6 + 1) (some (pw_i 1)) (some (pw_i 0)) (some (pw_i 1)) (some (pw_i 1))  (by omega) (by omega) (by omega) (by omega)  rfl
                                    · intro hc216
                                      change ¬ ((0 : Int) = (0 : Int)) at hc216
                                      exfalso; omega
                            · intro hc217
                              change ¬ (x138 = (0 : Int)) at hc217
                              refine pw_ld E (pc' := 103) (st' := [pw_i 1]) rfl (fun _ => rfl) ?_
                              refine pw_goto E (pc' := 107) rfl (by decide) ?_
                              refine pw_ist E (pc' := 109) (ls' := [some (.ref 141), some (pw_i bk), some (pw_i b), some (pw_i e), some (pw_i wt), some (pw_i k51_5), some (pw_i k51_6), some (pw_i 1), some (pw_i 1), k51_9, k51_10]) rfl rfl rfl rfl ?_
                              refine pw_ld E (pc' := 110) (st' := [.ref 141]) rfl (fun _ => rfl) ?_
                              refine pw_getR (b := 154) h19I E (c := 125) (k := 18) (pc' := 113) rfl rfl rfl rfl rfl rfl rfl ?_
                              refine pw_bip E (pc' := 115) rfl rfl (by decide) ?_
                              refine pw_ld E (pc' := 117) (st' := [pw_i k51_6, pw_i 12, .ref 154]) rfl (fun _ => rfl) ?_
                              refine pw_mul E (pc' := 118) rfl rfl ?_
                              refine pw_ld E (pc' := 119) (st' := [pw_i b, pw_i (12 * k51_6), .ref 154]) rfl (fun _ => rfl) ?_
                              refine pw_add E (pc' := 120) rfl rfl ?_
                              refine pw_ald2 h19I E (c := 138) (pc' := 121) rfl rfl rfl (by decide) rfl (by decide) (by omega) (by omega) rfl (fun hf218a hf218b => ?_)
                              refine pw_ld E (pc' := 122) (st' := [pw_i 2, pw_i (pw_g h19 138 (((12 * k51_6) + b).toNat))]) rfl (fun _ => rfl) ?_
                              refine pw_if2 E (pc' := 129) rfl (by decide) (by omega) (by omega) (by decide) (by decide) ?_ ?_
                              · intro hc219
                                change pw_g h19 138 (((12 * k51_6) + b).toNat) ≠ (2 : Int) at hc219
                                refine pw_ld E (pc' := 130) (st' := [pw_i 0]) rfl (fun _ => rfl) ?_
                                refine pw_ist E (pc' := 132) (ls' := [some (.ref 141), some (pw_i bk), some (pw_i b), some (pw_i e), some (pw_i wt), some (pw_i k51_5), some (pw_i k51_6), some (pw_i 1), some (pw_i 1), some (pw_i 0), k51_10]) rfl rfl rfl rfl ?_
                                refine pw_ld E (pc' := 133) (st' := [.ref 141]) rfl (fun _ => rfl) ?_
                                refine pw_getR (b := 154) h19I E (c := 125) (k := 18) (pc' := 136) rfl rfl rfl rfl rfl rfl rfl ?_
                                refine pw_bip E (pc' := 138) rfl rfl (by decide) ?_
                                refine pw_ld E (pc' := 140) (st' := [pw_i k51_6, pw_i 12, .ref 154]) rfl (fun _ => rfl) ?_
                                refine pw_mul E (pc' := 141) rfl rfl ?_
                                refine pw_ld E (pc' := 142) (st' := [pw_i e, pw_i (12 * k51_6), .ref 154]) rfl (fun _ => rfl) ?_
                                refine pw_add E (pc' := 143) rfl rfl ?_
                                refine pw_ald2 h19I E (c := 138) (pc' := 144) rfl rfl rfl (by decide) rfl (by decide) (by omega) (by omega) rfl (fun hf220a hf220b => ?_)
                                refine pw_ld E (pc' := 145) (st' := [pw_i 2, pw_i (pw_g h19 138 (((12 * k51_6) + e).toNat))]) rfl (fun _ => rfl) ?_
                                refine pw_if2 E (pc' := 152) rfl (by decide) (by omega) (by omega) (by decide) (by decide) ?_ ?_
                                · intro hc221
                                  change pw_g h19 138 (((12 * k51_6) + e).toNat) ≠ (2 : Int) at hc221
                                  refine pw_ld E (pc' := 153) (st' := [pw_i 0]) rfl (fun _ => rfl) ?_
                                  refine pw_ist E (pc' := 155) (ls' := [some (.ref 141), some (pw_i bk), some (pw_i b), some (pw_i e), some (pw_i wt), some (pw_i k51_5), some (pw_i k51_6), some (pw_i 1), some (pw_i 1), some (pw_i 0), some (pw_i 0)]) rfl rfl rfl rfl ?_
                                  refine pw_ld E (pc' := 157) (st' := [pw_i wt]) rfl (fun _ => rfl) ?_
                                  refine pw_ld E (pc' := 158) (st' := [pw_i 4, pw_i wt]) rfl (fun _ => rfl) ?_
                                  refine pw_if2 E (pc' := 186) rfl (by decide) (by omega) (by omega) (by decide) (by decide) ?_ ?_
                                  · intro hc222
                                    change wt ≠ (4 : Int) at hc222
                                    refine pw_ld E (pc' := 188) (st' := [pw_i wt]) rfl (fun _ => rfl) ?_
                                    refine pw_ld E (pc' := 189) (st' := [pw_i 2, pw_i wt]) rfl (fun _ => rfl) ?_
                                    refine pw_if2 E (pc' := 225) rfl (by decide) (by omega) (by omega) (by decide) (by decide) ?_ ?_
                                    · intro hc223
                                      change (2 : Int) ≤ wt at hc223
                                      refine pw_ld E (pc' := 227) (st' := [pw_i k51_5]) rfl (fun _ => rfl) ?_
                                      refine pw_ld E (pc' := 229) (st' := [pw_i 1, pw_i k51_5]) rfl (fun _ => rfl) ?_
                                      refine pw_if E (pc' := 265) rfl (by decide) (by decide) (by decide) ?_ ?_
                                      · intro hc224
                                        change (1 : Int) = (0 : Int) at hc224
                                        exfalso; omega
                                      · intro hc225
                                        change ¬ ((1 : Int) = (0 : Int)) at hc225
                                        refine pw_ld E (pc' := 234) (st' := [pw_i wt, pw_i k51_5]) rfl (fun _ => rfl) ?_
                                        refine pw_ld E (pc' := 235) (st' := [pw_i 2, pw_i wt, pw_i k51_5]) rfl (fun _ => rfl) ?_
                                        refine pw_if2 E (pc' := 251) rfl (by decide) (by omega) (by omega) (by decide) (by decide) ?_ ?_
                                        · intro hc226
                                          change wt ≠ (2 : Int) at hc226
                                          refine pw_ld E (pc' := 253) (st' := [pw_i 0, pw_i k51_5]) rfl (fun _ => rfl) ?_
                                          refine pw_if E (pc' := 265) rfl (by decide) (by decide) (by decide) ?_ ?_
                                          · intro hc227
                                            change (0 : Int) = (0 : Int) at hc227
                                            refine pw_ld E (pc' := 266) (st' := [pw_i 0, pw_i k51_5]) rfl (fun _ => rfl) ?_
                                            refine pw_add E (pc' := 267) rfl rfl ?_
                                            refine pw_ist E (pc' := 269) (ls' := [some (.ref 141), some (pw_i bk), some (pw_i b), some (pw_i e), some (pw_i wt), some (pw_i (k51_5 + 0)), some (pw_i k51_6), some (pw_i 1), some (pw_i 1), some (pw_i 0), some (pw_i 0)]) rfl rfl rfl rfl ?_
                                            refine pw_inc E (pc' := 272) (ls' := [some (.ref 141), some (pw_i bk), some (pw_i b), some (pw_i e), some (pw_i wt), some (pw_i (k51_5 + 0)), some (pw_i (k51_6 + 1)), some (pw_i 1), some (pw_i 1), some (pw_i 0), some (pw_i 0)]) rfl rfl rfl rfl ?_
                                            refine pw_goto E (pc' := 51) rfl (by decide) ?_
                                            exact ih51 _ (by omega) (k51_5 + 0) (k51_6 + 1) (some (pw_i 1)) (some (pw_i 1)) (some (pw_i 0)) (some (pw_i 0))  (by omega) (by omega) (by omega) (by omega)  rfl
                                          · intro hc228
                                            change ¬ ((0 : Int) = (0 : Int)) at hc228
                                            exfalso; omega
                                        · intro hc229
                                          change ¬ (wt ≠ (2 : Int)) at hc229
                                          refine pw_ld E (pc' := 240) (st' := [pw_i 0, pw_i k51_5]) rfl (fun _ => rfl) ?_
                                          refine pw_if E (pc' := 265) rfl (by decide) (by decide) (by decide) ?_ ?_
                                          · intro hc230
                                            change (0 : Int) = (0 : Int) at hc230
                                            refine pw_ld E (pc' := 266) (st' := [pw_i 0, pw_i k51_5]) rfl (fun _ => rfl) ?_
                                            refine pw_add E (pc' := 267) rfl rfl ?_
                                            refine pw_ist E (pc' := 269) (ls' := [some (.ref 141), some (pw_i bk), some (pw_i b), some (pw_i e), some (pw_i wt), some (pw_i (k51_5 + 0)), some (pw_i k51_6), some (pw_i 1), some (pw_i 1), some (pw_i 0), some (pw_i 0)]) rfl rfl rfl rfl ?_
                                            refine pw_inc E (pc' := 272) (ls' := [some (.ref 141), some (pw_i bk), some (pw_i b), some (pw_i e), some (pw_i wt), some (pw_i (k51_5 + 0)), some (pw_i (k51_6 + 1)), some (pw_i 1), some (pw_i 1), some (pw_i 0), some (pw_i 0)]) rfl rfl rfl rfl ?_
                                            refine pw_goto E (pc' := 51) rfl (by decide) ?_
                                            exact ih51 _ (by omega) (k51_5 + 0) (k51_6 + 1) (some (pw_i 1)) (some (pw_i 1)) (some (pw_i 0)) (some (pw_i 0))  (by omega) (by omega) (by omega) (by omega)  rfl
                                          · intro hc231
                                            change ¬ ((0 : Int) = (0 : Int)) at hc231
                                            exfalso; omega
                                    · intro hc232
                                      change ¬ ((2 : Int) ≤ wt) at hc232
                                      refine pw_ld E (pc' := 194) (st' := [pw_i k51_5]) rfl (fun _ => rfl) ?_
                                      refine pw_ld E (pc' := 196) (st' := [pw_i 1, pw_i k51_5]) rfl (fun _ => rfl) ?_
                                      refine pw_if E (pc' := 218) rfl (by decide) (by decide) (by decide) ?_ ?_
                                      · intro hc233
                                        change (1 : Int) = (0 : Int) at hc233
                                        exfalso; omega
                                      · intro hc234
                                        change ¬ ((1 : Int) = (0 : Int)) at hc234
                                        refine pw_ld E (pc' := 201) (st' := [pw_i 1, pw_i k51_5]) rfl (fun _ => rfl) ?_
                                        refine pw_ld E (pc' := 203) (st' := [pw_i wt, pw_i 1, pw_i k51_5]) rfl (fun _ => rfl) ?_
                                        refine pw_if E (pc' := 210) rfl (by decide) (by omega) (by omega) ?_ ?_
                                        · intro hc235
                                          change wt ≠ (0 : Int) at hc235
                                          refine pw_ld E (pc' := 211) (st' := [pw_i 0, pw_i 1, pw_i k51_5]) rfl (fun _ => rfl) ?_
                                          refine pw_if2 E (pc' := 218) rfl (by decide) (by decide) (by decide) (by decide) (by decide) ?_ ?_
                                          · intro hc236
                                            change (1 : Int) ≠ (0 : Int) at hc236
                                            refine pw_ld E (pc' := 219) (st' := [pw_i 0, pw_i k51_5]) rfl (fun _ => rfl) ?_
                                            refine pw_add E (pc' := 220) rfl rfl ?_
                                            refine pw_ist E (pc' := 222) (ls' := [some (.ref 141), some (pw_i bk), some (pw_i b), some (pw_i e), some (pw_i wt), some (pw_i (k51_5 + 0)), some (pw_i k51_6), some (pw_i 1), some (pw_i 1), some (pw_i 0), some (pw_i 0)]) rfl rfl rfl rfl ?_
                                            refine pw_goto E (pc' := 269) rfl (by decide) ?_
                                            refine pw_inc E (pc' := 272) (ls' := [some (.ref 141), some (pw_i bk), some (pw_i b), some (pw_i e), some (pw_i wt), some (pw_i (k51_5 + 0)), some (pw_i (k51_6 + 1)), some (pw_i 1), some (pw_i 1), some (pw_i 0), some (pw_i 0)]) rfl rfl rfl rfl ?_
                                            refine pw_goto E (pc' := 51) rfl (by decide) ?_
                                            exact ih51 _ (by omega) (k51_5 + 0) (k51_6 + 1) (some (pw_i 1)) (some (pw_i 1)) (some (pw_i 0)) (some (pw_i 0))  (by omega) (by omega) (by omega) (by omega)  rfl
                                          · intro hc237
                                            change ¬ ((1 : Int) ≠ (0 : Int)) at hc237
                                            exfalso; omega
                                        · intro hc238
                                          change ¬ (wt ≠ (0 : Int)) at hc238
                                          refine pw_ld E (pc' := 207) (st' := [pw_i 1, pw_i 1, pw_i k51_5]) rfl (fun _ => rfl) ?_
                                          refine pw_goto E (pc' := 211) rfl (by decide) ?_
                                          refine pw_if2 E (pc' := 218) rfl (by decide) (by decide) (by decide) (by decide) (by decide) ?_ ?_
                                          · intro hc239
                                            change (1 : Int) ≠ (1 : Int) at hc239
                                            exfalso; omega
                                          · intro hc240
                                            change ¬ ((1 : Int) ≠ (1 : Int)) at hc240
                                            refine pw_ld E (pc' := 215) (st' := [pw_i 1, pw_i k51_5]) rfl (fun _ => rfl) ?_
                                            refine pw_goto E (pc' := 219) rfl (by decide) ?_
                                            refine pw_add E (pc' := 220) rfl rfl ?_
                                            refine pw_nm (fun x241 hx241a hx241b => ?_)
                                            refine pw_ist E (pc' := 222) (ls' := [some (.ref 141), some (pw_i bk), some (pw_i b), some (pw_i e), some (pw_i wt), some (pw_i x241), some (pw_i k51_6), some (pw_i 1), some (pw_i 1), some (pw_i 0), some (pw_i 0)]) rfl rfl rfl rfl ?_
                                            refine pw_goto E (pc' := 269) rfl (by decide) ?_
                                            refine pw_inc E (pc' := 272) (ls' := [some (.ref 141), some (pw_i bk), some (pw_i b), some (pw_i e), some (pw_i wt), some (pw_i x241), some (pw_i (k51_6 + 1)), some (pw_i 1), some (pw_i 1), some (pw_i 0), some (pw_i 0)]) rfl rfl rfl rfl ?_
                                            refine pw_goto E (pc' := 51) rfl (by decide) ?_
                                            exact ih51 _ (by omega) (x241) (k51_6 + 1) (some (pw_i 1)) (some (pw_i 1)) (some (pw_i 0)) (some (pw_i 0))  (by omega) (by omega) (by omega) (by omega)  rfl
                                  · intro hc242
                                    change ¬ (wt ≠ (4 : Int)) at hc242
                                    refine pw_ld E (pc' := 163) (st' := [pw_i k51_5]) rfl (fun _ => rfl) ?_
                                    refine pw_ld E (pc' := 165) (st' := [pw_i 1, pw_i k51_5]) rfl (fun _ => rfl) ?_
                                    refine pw_if E (pc' := 179) rfl (by decide) (by decide) (by decide) ?_ ?_
                                    · intro hc243
                                      change (1 : Int) = (0 : Int) at hc243
                                      exfalso; omega
                                    · intro hc244
                                      change ¬ ((1 : Int) = (0 : Int)) at hc244
                                      refine pw_ld E (pc' := 169) (st' := [.ref 141, pw_i k51_5]) rfl (fun _ => rfl) ?_
                                      refine pw_ld E (pc' := 171) (st' := [pw_i k51_6, .ref 141, pw_i k51_5]) rfl (fun _ => rfl) ?_
                                      refine pw_ld E (pc' := 172) (st' := [pw_i b, pw_i k51_6, .ref 141, pw_i k51_5]) rfl (fun _ => rfl) ?_
                                      refine pw_ld E (pc' := 173) (st' := [pw_i e, pw_i b, pw_i k51_6, .ref 141, pw_i k51_5]) rfl (fun _ => rfl) ?_
                                      obtain ⟨f245l, f245h, -⟩ := pw_obj (c := 125) h19I rfl
                                      refine pw_call (m' := 215) (As := [.ref 141, pw_i k51_6, pw_i b, pw_i e]) (rest := [pw_i k51_5]) (ls'' := [some (.ref 141), some (pw_i k51_6), some (pw_i b), some (pw_i e)]) (Nat.le_trans (by decide) hd) E rfl (fun _ => pw_iV rfl rfl rfl rfl (pw_cellI f245h rfl)) (rfl : pm_ent 215 = some (4, 4, 12, 0, pmc_215)) rfl rfl (cm_215 (pw_dp hd (by decide)) h19I (k51_6) (by omega) (by omega) (b) (by omega) (by omega) (e) (by omega) (by omega)) ?_
                                      rintro u247 v246 ⟨rfl, x248, rfl, hx248a, hx248b⟩
                                      refine ⟨_, rfl, ?_⟩
                                      show pw X d h19 212 176 [some (.ref 141), some (pw_i bk), some (pw_i b), some (pw_i e), some (pw_i wt), some (pw_i k51_5), some (pw_i k51_6), some (pw_i 1), some (pw_i 1), some (pw_i 0), some (pw_i 0)] [pw_i x248, pw_i k51_5] _
                                      refine pw_goto E (pc' := 180) rfl (by decide) ?_
                                      refine pw_add E (pc' := 181) rfl rfl ?_
                                      refine pw_nm (fun x249 hx249a hx249b => ?_)
                                      refine pw_ist E (pc' := 183) (ls' := [some (.ref 141), some (pw_i bk), some (pw_i b), some (pw_i e), some (pw_i wt), some (pw_i x249), some (pw_i k51_6), some (pw_i 1), some (pw_i 1), some (pw_i 0), some (pw_i 0)]) rfl rfl rfl rfl ?_
                                      refine pw_goto E (pc' := 269) rfl (by decide) ?_
                                      refine pw_inc E (pc' := 272) (ls' := [some (.ref 141), some (pw_i bk), some (pw_i b), some (pw_i e), some (pw_i wt), some (pw_i x249), some (pw_i (k51_6 + 1)), some (pw_i 1), some (pw_i 1), some (pw_i 0), some (pw_i 0)]) rfl rfl rfl rfl ?_
                                      refine pw_goto E (pc' := 51) rfl (by decide) ?_
                                      exact ih51 _ (by omega) (x249) (k51_6 + 1) (some (pw_i 1)) (some (pw_i 1)) (some (pw_i 0)) (some (pw_i 0))  (by omega) (by omega) (by omega) (by omega)  rfl
                                · intro hc250
                                  change ¬ (pw_g h19 138 (((12 * k51_6) + e).toNat) ≠ (2 : Int)) at hc250
                                  refine pw_ld E (pc' := 149) (st' := [pw_i 1]) rfl (fun _ => rfl) ?_
                                  refine pw_goto E (pc' := 153) rfl (by decide) ?_
                                  refine pw_ist E (pc' := 155) (ls' := [some (.ref 141), some (pw_i bk), some (pw_i b), some (pw_i e), some (pw_i wt), some (pw_i k51_5), some (pw_i k51_6), some (pw_i 1), some (pw_i 1), some (pw_i 0), some (pw_i 1)]) rfl rfl rfl rfl ?_
                                  refine pw_ld E (pc' := 157) (st' := [pw_i wt]) rfl (fun _ => rfl) ?_
                                  refine pw_ld E (pc' := 158) (st' := [pw_i 4, pw_i wt]) rfl (fun _ => rfl) ?_
                                  refine pw_if2 E (pc' := 186) rfl (by decide) (by omega) (by omega) (by decide) (by decide) ?_ ?_
                                  · intro hc251
                                    change wt ≠ (4 : Int) at hc251
                                    refine pw_ld E (pc' := 188) (st' := [pw_i wt]) rfl (fun _ => rfl) ?_
                                    refine pw_ld E (pc' := 189) (st' := [pw_i 2, pw_i wt]) rfl (fun _ => rfl) ?_
                                    refine pw_if2 E (pc' := 225) rfl (by decide) (by omega) (by omega) (by decide) (by decide) ?_ ?_
                                    · intro hc252
                                      change (2 : Int) ≤ wt at hc252
                                      refine pw_ld E (pc' := 227) (st' := [pw_i k51_5]) rfl (fun _ => rfl) ?_
                                      refine pw_ld E (pc' := 229) (st' := [pw_i 1, pw_i k51_5]) rfl (fun _ => rfl) ?_
                                      refine pw_if E (pc' := 265) rfl (by decide) (by decide) (by decide) ?_ ?_
                                      · intro hc253
                                        change (1 : Int) = (0 : Int) at hc253
                                        exfalso; omega
                                      · intro hc254
                                        change ¬ ((1 : Int) = (0 : Int)) at hc254
                                        refine pw_ld E (pc' := 234) (st' := [pw_i wt, pw_i k51_5]) rfl (fun _ => rfl) ?_
                                        refine pw_ld E (pc' := 235) (st' := [pw_i 2, pw_i wt, pw_i k51_5]) rfl (fun _ => rfl) ?_
                                        refine pw_if2 E (pc' := 251) rfl (by decide) (by omega) (by omega) (by decide) (by decide) ?_ ?_
                                        · intro hc255
                                          change wt ≠ (2 : Int) at hc255
                                          refine pw_ld E (pc' := 253) (st' := [pw_i 0, pw_i k51_5]) rfl (fun _ => rfl) ?_
                                          refine pw_if E (pc' := 265) rfl (by decide) (by decide) (by decide) ?_ ?_
                                          · intro hc256
                                            change (0 : Int) = (0 : Int) at hc256
                                            refine pw_ld E (pc' := 266) (st' := [pw_i 0, pw_i k51_5]) rfl (fun _ => rfl) ?_
                                            refine pw_add E (pc' := 267) rfl rfl ?_
                                            refine pw_ist E (pc' := 269) (ls' := [some (.ref 141), some (pw_i bk), some (pw_i b), some (pw_i e), some (pw_i wt), some (pw_i (k51_5 + 0)), some (pw_i k51_6), some (pw_i 1), some (pw_i 1), some (pw_i 0), some (pw_i 1)]) rfl rfl rfl rfl ?_
                                            refine pw_inc E (pc' := 272) (ls' := [some (.ref 141), some (pw_i bk), some (pw_i b), some (pw_i e), some (pw_i wt), some (pw_i (k51_5 + 0)), some (pw_i (k51_6 + 1)), some (pw_i 1), some (pw_i 1), some (pw_i 0), some (pw_i 1)]) rfl rfl rfl rfl ?_
                                            refine pw_goto E (pc' := 51) rfl (by decide) ?_
                                            exact ih51 _ (by omega) (k51_5 + 0) (k51_6 + 1) (some (pw_i 1)) (some (pw_i 1)) (some (pw_i 0)) (some (pw_i 1))  (by omega) (by omega) (by omega) (by omega)  rfl
                                          · intro hc257
                                            change ¬ ((0 : Int) = (0 : Int)) at hc257
                                            exfalso; omega
                                        · intro hc258
                                          change ¬ (wt ≠ (2 : Int)) at hc258
                                          refine pw_ld E (pc' := 240) (st' := [pw_i 1, pw_i k51_5]) rfl (fun _ => rfl) ?_
                                          refine pw_if E (pc' := 265) rfl (by decide) (by decide) (by decide) ?_ ?_
                                          · intro hc259
                                            change (1 : Int) = (0 : Int) at hc259
                                            exfalso; omega
                                          · intro hc260
                                            change ¬ ((1 : Int) = (0 : Int)) at hc260
                                            refine pw_ld E (pc' := 245) (st' := [pw_i 0, pw_i k51_5]) rfl (fun _ => rfl) ?_
                                            refine pw_if E (pc' := 265) rfl (by decide) (by decide) (by decide) ?_ ?_
                                            · intro hc261
                                              change (0 : Int) ≠ (0 : Int) at hc261
                                              exfalso; omega
                                            · intro hc262
                                              change ¬ ((0 : Int) ≠ (0 : Int)) at hc262
                                              refine pw_goto E (pc' := 261) rfl (by decide) ?_
                                              refine pw_ld E (pc' := 262) (st' := [pw_i 1, pw_i k51_5]) rfl (fun _ => rfl) ?_
                                              refine pw_goto E (pc' := 266) rfl (by decide) ?_
                                              refine pw_add E (pc' := 267) rfl rfl ?_
                                              refine pw_nm (fun x263 hx263a hx263b => ?_)
                                              refine pw_ist E (pc' := 269) (ls' := [some (.ref 141), some (pw_i bk), some (pw_i b), some (pw_i e), some (pw_i wt), some (pw_i x263), some (pw_i k51_6), some (pw_i 1), some (pw_i 1), some (pw_i 0), some (pw_i 1)]) rfl rfl rfl rfl ?_
                                              refine pw_inc E (pc' := 272) (ls' := [some (.ref 141), some (pw_i bk), some (pw_i b), some (pw_i e), some (pw_i wt), some (pw_i x263), some (pw_i (k51_6 + 1)), some (pw_i 1), some (pw_i 1), some (pw_i 0), some (pw_i 1)]) rfl rfl rfl rfl ?_
                                              refine pw_goto E (pc' := 51) rfl (by decide) ?_
                                              exact ih51 _ (by omega) (x263) (k51_6 + 1) (some (pw_i 1)) (some (pw_i 1)) (some (pw_i 0)) (some (pw_i 1))  (by omega) (by omega) (by omega) (by omega)  rfl
                                    · intro hc264
                                      change ¬ ((2 : Int) ≤ wt) at hc264
                                      refine pw_ld E (pc' := 194) (st' := [pw_i k51_5]) rfl (fun _ => rfl) ?_
                                      refine pw_ld E (pc' := 196) (st' := [pw_i 1, pw_i k51_5]) rfl (fun _ => rfl) ?_
                                      refine pw_if E (pc' := 218) rfl (by decide) (by decide) (by decide) ?_ ?_
                                      · intro hc265
                                        change (1 : Int) = (0 : Int) at hc265
                                        exfalso; omega
                                      · intro hc266
                                        change ¬ ((1 : Int) = (0 : Int)) at hc266
                                        refine pw_ld E (pc' := 201) (st' := [pw_i 1, pw_i k51_5]) rfl (fun _ => rfl) ?_
                                        refine pw_ld E (pc' := 203) (st' := [pw_i wt, pw_i 1, pw_i k51_5]) rfl (fun _ => rfl) ?_
                                        refine pw_if E (pc' := 210) rfl (by decide) (by omega) (by omega) ?_ ?_
                                        · intro hc267
                                          change wt ≠ (0 : Int) at hc267
                                          refine pw_ld E (pc' := 211) (st' := [pw_i 0, pw_i 1, pw_i k51_5]) rfl (fun _ => rfl) ?_
                                          refine pw_if2 E (pc' := 218) rfl (by decide) (by decide) (by decide) (by decide) (by decide) ?_ ?_
                                          · intro hc268
                                            change (1 : Int) ≠ (0 : Int) at hc268
                                            refine pw_ld E (pc' := 219) (st' := [pw_i 0, pw_i k51_5]) rfl (fun _ => rfl) ?_
                                            refine pw_add E (pc' := 220) rfl rfl ?_
                                            refine pw_ist E (pc' := 222) (ls' := [some (.ref 141), some (pw_i bk), some (pw_i b), some (pw_i e), some (pw_i wt), some (pw_i (k51_5 + 0)), some (pw_i k51_6), some (pw_i 1), some (pw_i 1), some (pw_i 0), some (pw_i 1)]) rfl rfl rfl rfl ?_
                                            refine pw_goto E (pc' := 269) rfl (by decide) ?_
                                            refine pw_inc E (pc' := 272) (ls' := [some (.ref 141), some (pw_i bk), some (pw_i b), some (pw_i e), some (pw_i wt), some (pw_i (k51_5 + 0)), some (pw_i (k51_6 + 1)), some (pw_i 1), some (pw_i 1), some (pw_i 0), some (pw_i 1)]) rfl rfl rfl rfl ?_
                                            refine pw_goto E (pc' := 51) rfl (by decide) ?_
                                            exact ih51 _ (by omega) (k51_5 + 0) (k51_6 + 1) (some (pw_i 1)) (some (pw_i 1)) (some (pw_i 0)) (some (pw_i 1))  (by omega) (by omega) (by omega) (by omega)  rfl
                                          · intro hc269
                                            change ¬ ((1 : Int) ≠ (0 : Int)) at hc269
                                            exfalso; omega
                                        · intro hc270
                                          change ¬ (wt ≠ (0 : Int)) at hc270
                                          refine pw_ld E (pc' := 207) (st' := [pw_i 1, pw_i 1, pw_i k51_5]) rfl (fun _ => rfl) ?_
                                          refine pw_goto E (pc' := 211) rfl (by decide) ?_
                                          refine pw_if2 E (pc' := 218) rfl (by decide) (by decide) (by decide) (by decide) (by decide) ?_ ?_
                                          · intro hc271
                                            change (1 : Int) ≠ (1 : Int) at hc271
                                            exfalso; omega
                                          · intro hc272
                                            change ¬ ((1 : Int) ≠ (1 : Int)) at hc272
                                            refine pw_ld E (pc' := 215) (st' := [pw_i 1, pw_i k51_5]) rfl (fun _ => rfl) ?_
                                            refine pw_goto E (pc' := 219) rfl (by decide) ?_
                                            refine pw_add E (pc' := 220) rfl rfl ?_
                                            refine pw_nm (fun x273 hx273a hx273b => ?_)
                                            refine pw_ist E (pc' := 222) (ls' := [some (.ref 141), some (pw_i bk), some (pw_i b), some (pw_i e), some (pw_i wt), some (pw_i x273), some (pw_i k51_6), some (pw_i 1), some (pw_i 1), some (pw_i 0), some (pw_i 1)]) rfl rfl rfl rfl ?_
                                            refine pw_goto E (pc' := 269) rfl (by decide) ?_
                                            refine pw_inc E (pc' := 272) (ls' := [some (.ref 141), some (pw_i bk), some (pw_i b), some (pw_i e), some (pw_i wt), some (pw_i x273), some (pw_i (k51_6 + 1)), some (pw_i 1), some (pw_i 1), some (pw_i 0), some (pw_i 1)]) rfl rfl rfl rfl ?_
                                            refine pw_goto E (pc' := 51) rfl (by decide) ?_
                                            exact ih51 _ (by omega) (x273) (k51_6 + 1) (some (pw_i 1)) (some (pw_i 1)) (some (pw_i 0)) (some (pw_i 1))  (by omega) (by omega) (by omega) (by omega)  rfl
                                  · intro hc274
                                    change ¬ (wt ≠ (4 : Int)) at hc274
                                    refine pw_ld E (pc' := 163) (st' := [pw_i k51_5]) rfl (fun _ => rfl) ?_
                                    refine pw_ld E (pc' := 165) (st' := [pw_i 1, pw_i k51_5]) rfl (fun _ => rfl) ?_
                                    refine pw_if E (pc' := 179) rfl (by decide) (by decide) (by decide) ?_ ?_
                                    · intro hc275
                                      change (1 : Int) = (0 : Int) at hc275
                                      exfalso; omega
                                    · intro hc276
                                      change ¬ ((1 : Int) = (0 : Int)) at hc276
                                      refine pw_ld E (pc' := 169) (st' := [.ref 141, pw_i k51_5]) rfl (fun _ => rfl) ?_
                                      refine pw_ld E (pc' := 171) (st' := [pw_i k51_6, .ref 141, pw_i k51_5]) rfl (fun _ => rfl) ?_
                                      refine pw_ld E (pc' := 172) (st' := [pw_i b, pw_i k51_6, .ref 141, pw_i k51_5]) rfl (fun _ => rfl) ?_
                                      refine pw_ld E (pc' := 173) (st' := [pw_i e, pw_i b, pw_i k51_6, .ref 141, pw_i k51_5]) rfl (fun _ => rfl) ?_
                                      obtain ⟨f277l, f277h, -⟩ := pw_obj (c := 125) h19I rfl
                                      refine pw_call (m' := 215) (As := [.ref 141, pw_i k51_6, pw_i b, pw_i e]) (rest := [pw_i k51_5]) (ls'' := [some (.ref 141), some (pw_i k51_6), some (pw_i b), some (pw_i e)]) (Nat.le_trans (by decide) hd) E rfl (fun _ => pw_iV rfl rfl rfl rfl (pw_cellI f277h rfl)) (rfl : pm_ent 215 = some (4, 4, 12, 0, pmc_215)) rfl rfl (cm_215 (pw_dp hd (by decide)) h19I (k51_6) (by omega) (by omega) (b) (by omega) (by omega) (e) (by omega) (by omega)) ?_
                                      rintro u279 v278 ⟨rfl, x280, rfl, hx280a, hx280b⟩
                                      refine ⟨_, rfl, ?_⟩
                                      show pw X d h19 212 176 [some (.ref 141), some (pw_i bk), some (pw_i b), some (pw_i e), some (pw_i wt), some (pw_i k51_5), some (pw_i k51_6), some (pw_i 1), some (pw_i 1), some (pw_i 0), some (pw_i 1)] [pw_i x280, pw_i k51_5] _
                                      refine pw_goto E (pc' := 180) rfl (by decide) ?_
                                      refine pw_add E (pc' := 181) rfl rfl ?_
                                      refine pw_nm (fun x281 hx281a hx281b => ?_)
                                      refine pw_ist E (pc' := 183) (ls' := [some (.ref 141), some (pw_i bk), some (pw_i b), some (pw_i e), some (pw_i wt), some (pw_i x281), some (pw_i k51_6), some (pw_i 1), some (pw_i 1), some (pw_i 0), some (pw_i 1)]) rfl rfl rfl rfl ?_
                                      refine pw_goto E (pc' := 269) rfl (by decide) ?_
                                      refine pw_inc E (pc' := 272) (ls' := [some (.ref 141), some (pw_i bk), some (pw_i b), some (pw_i e), some (pw_i wt), some (pw_i x281), some (pw_i (k51_6 + 1)), some (pw_i 1), some (pw_i 1), some (pw_i 0), some (pw_i 1)]) rfl rfl rfl rfl ?_
                                      refine pw_goto E (pc' := 51) rfl (by decide) ?_
                                      exact ih51 _ (by omega) (x281) (k51_6 + 1) (some (pw_i 1)) (some (pw_i 1)) (some (pw_i 0)) (some (pw_i 1))  (by omega) (by omega) (by omega) (by omega)  rfl
                              · intro hc282
                                change ¬ (pw_g h19 138 (((12 * k51_6) + b).toNat) ≠ (2 : Int)) at hc282
                                refine pw_ld E (pc' := 126) (st' := [pw_i 1]) rfl (fun _ => rfl) ?_
                                refine pw_goto E (pc' := 130) rfl (by decide) ?_
                                refine pw_ist E (pc' := 132) (ls' := [some (.ref 141), some (pw_i bk), some (pw_i b), some (pw_i e), some (pw_i wt), some (pw_i k51_5), some (pw_i k51_6), some (pw_i 1), some (pw_i 1), some (pw_i 1), k51_10]) rfl rfl rfl rfl ?_
                                refine pw_ld E (pc' := 133) (st' := [.ref 141]) rfl (fun _ => rfl) ?_
                                refine pw_getR (b := 154) h19I E (c := 125) (k := 18) (pc' := 136) rfl rfl rfl rfl rfl rfl rfl ?_
                                refine pw_bip E (pc' := 138) rfl rfl (by decide) ?_
                                refine pw_ld E (pc' := 140) (st' := [pw_i k51_6, pw_i 12, .ref 154]) rfl (fun _ => rfl) ?_
                                refine pw_mul E (pc' := 141) rfl rfl ?_
                                refine pw_ld E (pc' := 142) (st' := [pw_i e, pw_i (12 * k51_6), .ref 154]) rfl (fun _ => rfl) ?_
                                refine pw_add E (pc' := 143) rfl rfl ?_
                                refine pw_ald2 h19I E (c := 138) (pc' := 144) rfl rfl rfl (by decide) rfl (by decide) (by omega) (by omega) rfl (fun hf283a hf283b => ?_)
                                refine pw_ld E (pc' := 145) (st' := [pw_i 2, pw_i (pw_g h19 138 (((12 * k51_6) + e).toNat))]) rfl (fun _ => rfl) ?_
                                refine pw_if2 E (pc' := 152) rfl (by decide) (by omega) (by omega) (by decide) (by decide) ?_ ?_
                                · intro hc284
                                  change pw_g h19 138 (((12 * k51_6) + e).toNat) ≠ (2 : Int) at hc284
                                  refine pw_ld E (pc' := 153) (st' := [pw_i 0]) rfl (fun _ => rfl) ?_
                                  refine pw_ist E (pc' := 155) (ls' := [some (.ref 141), some (pw_i bk), some (pw_i b), some (pw_i e), some (pw_i wt), some (pw_i k51_5), some (pw_i k51_6), some (pw_i 1), some (pw_i 1), some (pw_i 1), some (pw_i 0)]) rfl rfl rfl rfl ?_
                                  refine pw_ld E (pc' := 157) (st' := [pw_i wt]) rfl (fun _ => rfl) ?_
                                  refine pw_ld E (pc' := 158) (st' := [pw_i 4, pw_i wt]) rfl (fun _ => rfl) ?_
                                  refine pw_if2 E (pc' := 186) rfl (by decide) (by omega) (by omega) (by decide) (by decide) ?_ ?_
                                  · intro hc285
                                    change wt ≠ (4 : Int) at hc285
                                    refine pw_ld E (pc' := 188) (st' := [pw_i wt]) rfl (fun _ => rfl) ?_
                                    refine pw_ld E (pc' := 189) (st' := [pw_i 2, pw_i wt]) rfl (fun _ => rfl) ?_
                                    refine pw_if2 E (pc' := 225) rfl (by decide) (by omega) (by omega) (by decide) (by decide) ?_ ?_
                                    · intro hc286
                                      change (2 : Int) ≤ wt at hc286
                                      refine pw_ld E (pc' := 227) (st' := [pw_i k51_5]) rfl (fun _ => rfl) ?_
                                      refine pw_ld E (pc' := 229) (st' := [pw_i 1, pw_i k51_5]) rfl (fun _ => rfl) ?_
                                      refine pw_if E (pc' := 265) rfl (by decide) (by decide) (by decide) ?_ ?_
                                      · intro hc287
                                        change (1 : Int) = (0 : Int) at hc287
                                        exfalso; omega
                                      · intro hc288
                                        change ¬ ((1 : Int) = (0 : Int)) at hc288
                                        refine pw_ld E (pc' := 234) (st' := [pw_i wt, pw_i k51_5]) rfl (fun _ => rfl) ?_
                                        refine pw_ld E (pc' := 235) (st' := [pw_i 2, pw_i wt, pw_i k51_5]) rfl (fun _ => rfl) ?_
                                        refine pw_if2 E (pc' := 251) rfl (by decide) (by omega) (by omega) (by decide) (by decide) ?_ ?_
                                        · intro hc289
                                          change wt ≠ (2 : Int) at hc289
                                          refine pw_ld E (pc' := 253) (st' := [pw_i 1, pw_i k51_5]) rfl (fun _ => rfl) ?_
                                          refine pw_if E (pc' := 265) rfl (by decide) (by decide) (by decide) ?_ ?_
                                          · intro hc290
                                            change (1 : Int) = (0 : Int) at hc290
                                            exfalso; omega
                                          · intro hc291
                                            change ¬ ((1 : Int) = (0 : Int)) at hc291
                                            refine pw_ld E (pc' := 258) (st' := [pw_i 0, pw_i k51_5]) rfl (fun _ => rfl) ?_
                                            refine pw_if E (pc' := 265) rfl (by decide) (by decide) (by decide) ?_ ?_
                                            · intro hc292
                                              change (0 : Int) ≠ (0 : Int) at hc292
                                              exfalso; omega
                                            · intro hc293
                                              change ¬ ((0 : Int) ≠ (0 : Int)) at hc293
                                              refine pw_ld E (pc' := 262) (st' := [pw_i 1, pw_i k51_5]) rfl (fun _ => rfl) ?_
                                              refine pw_goto E (pc' := 266) rfl (by decide) ?_
                                              refine pw_add E (pc' := 267) rfl rfl ?_
                                              refine pw_nm (fun x294 hx294a hx294b => ?_)
                                              refine pw_ist E (pc' := 269) (ls' := [some (.ref 141), some (pw_i bk), some (pw_i b), some (pw_i e), some (pw_i wt), some (pw_i x294), some (pw_i k51_6), some (pw_i 1), some (pw_i 1), some (pw_i 1), some (pw_i 0)]) rfl rfl rfl rfl ?_
                                              refine pw_inc E (pc' := 272) (ls' := [some (.ref 141), some (pw_i bk), some (pw_i b), some (pw_i e), some (pw_i wt), some (pw_i x294), some (pw_i (k51_6 + 1)), some (pw_i 1), some (pw_i 1), some (pw_i 1), some (pw_i 0)]) rfl rfl rfl rfl ?_
                                              refine pw_goto E (pc' := 51) rfl (by decide) ?_
                                              exact ih51 _ (by omega) (x294) (k51_6 + 1) (some (pw_i 1)) (some (pw_i 1)) (some (pw_i 1)) (some (pw_i 0))  (by omega) (by omega) (by omega) (by omega)  rfl
                                        · intro hc295
                                          change ¬ (wt ≠ (2 : Int)) at hc295
                                          refine pw_ld E (pc' := 240) (st' := [pw_i 0, pw_i k51_5]) rfl (fun _ => rfl) ?_
                                          refine pw_if E (pc' := 265) rfl (by decide) (by decide) (by decide) ?_ ?_
                                          · intro hc296
                                            change (0 : Int) = (0 : Int) at hc296
                                            refine pw_ld E (pc' := 266) (st' := [pw_i 0, pw_i k51_5]) rfl (fun _ => rfl) ?_
                                            refine pw_add E (pc' := 267) rfl rfl ?_
                                            refine pw_ist E (pc' := 269) (ls' := [some (.ref 141), some (pw_i bk), some (pw_i b), some (pw_i e), some (pw_i wt), some (pw_i (k51_5 + 0)), some (pw_i k51_6), some (pw_i 1), some (pw_i 1), some (pw_i 1), some (pw_i 0)]) rfl rfl rfl rfl ?_
                                            refine pw_inc E (pc' := 272) (ls' := [some (.ref 141), some (pw_i bk), some (pw_i b), some (pw_i e), some (pw_i wt), some (pw_i (k51_5 + 0)), some (pw_i (k51_6 + 1)), some (pw_i 1), some (pw_i 1), some (pw_i 1), some (pw_i 0)]) rfl rfl rfl rfl ?_
                                            refine pw_goto E (pc' := 51) rfl (by decide) ?_
                                            exact ih51 _ (by omega) (k51_5 + 0) (k51_6 + 1) (some (pw_i 1)) (some (pw_i 1)) (some (pw_i 1)) (some (pw_i 0))  (by omega) (by omega) (by omega) (by omega)  rfl
                                          · intro hc297
                                            change ¬ ((0 : Int) = (0 : Int)) at hc297
                                            exfalso; omega
                                    · intro hc298
                                      change ¬ ((2 : Int) ≤ wt) at hc298
                                      refine pw_ld E (pc' := 194) (st' := [pw_i k51_5]) rfl (fun _ => rfl) ?_
                                      refine pw_ld E (pc' := 196) (st' := [pw_i 1, pw_i k51_5]) rfl (fun _ => rfl) ?_
                                      refine pw_if E (pc' := 218) rfl (by decide) (by decide) (by decide) ?_ ?_
                                      · intro hc299
                                        change (1 : Int) = (0 : Int) at hc299
                                        exfalso; omega
                                      · intro hc300
                                        change ¬ ((1 : Int) = (0 : Int)) at hc300
                                        refine pw_ld E (pc' := 201) (st' := [pw_i 1, pw_i k51_5]) rfl (fun _ => rfl) ?_
                                        refine pw_ld E (pc' := 203) (st' := [pw_i wt, pw_i 1, pw_i k51_5]) rfl (fun _ => rfl) ?_
                                        refine pw_if E (pc' := 210) rfl (by decide) (by omega) (by omega) ?_ ?_
                                        · intro hc301
                                          change wt ≠ (0 : Int) at hc301
                                          refine pw_ld E (pc' := 211) (st' := [pw_i 0, pw_i 1, pw_i k51_5]) rfl (fun _ => rfl) ?_
                                          refine pw_if2 E (pc' := 218) rfl (by decide) (by decide) (by decide) (by decide) (by decide) ?_ ?_
                                          · intro hc302
                                            change (1 : Int) ≠ (0 : Int) at hc302
                                            refine pw_ld E (pc' := 219) (st' := [pw_i 0, pw_i k51_5]) rfl (fun _ => rfl) ?_
                                            refine pw_add E (pc' := 220) rfl rfl ?_
                                            refine pw_ist E (pc' := 222) (ls' := [some (.ref 141), some (pw_i bk), some (pw_i b), some (pw_i e), some (pw_i wt), some (pw_i (k51_5 + 0)), some (pw_i k51_6), some (pw_i 1), some (pw_i 1), some (pw_i 1), some (pw_i 0)]) rfl rfl rfl rfl ?_
                                            refine pw_goto E (pc' := 269) rfl (by decide) ?_
                                            refine pw_inc E (pc' := 272) (ls' := [some (.ref 141), some (pw_i bk), some (pw_i b), some (pw_i e), some (pw_i wt), some (pw_i (k51_5 + 0)), some (pw_i (k51_6 + 1)), some (pw_i 1), some (pw_i 1), some (pw_i 1), some (pw_i 0)]) rfl rfl rfl rfl ?_
                                            refine pw_goto E (pc' := 51) rfl (by decide) ?_
                                            exact ih51 _ (by omega) (k51_5 + 0) (k51_6 + 1) (some (pw_i 1)) (some (pw_i 1)) (some (pw_i 1)) (some (pw_i 0))  (by omega) (by omega) (by omega) (by omega)  rfl
                                          · intro hc303
                                            change ¬ ((1 : Int) ≠ (0 : Int)) at hc303
                                            exfalso; omega
                                        · intro hc304
                                          change ¬ (wt ≠ (0 : Int)) at hc304
                                          refine pw_ld E (pc' := 207) (st' := [pw_i 1, pw_i 1, pw_i k51_5]) rfl (fun _ => rfl) ?_
                                          refine pw_goto E (pc' := 211) rfl (by decide) ?_
                                          refine pw_if2 E (pc' := 218) rfl (by decide) (by decide) (by decide) (by decide) (by decide) ?_ ?_
                                          · intro hc305
                                            change (1 : Int) ≠ (1 : Int) at hc305
                                            exfalso; omega
                                          · intro hc306
                                            change ¬ ((1 : Int) ≠ (1 : Int)) at hc306
                                            refine pw_ld E (pc' := 215) (st' := [pw_i 1, pw_i k51_5]) rfl (fun _ => rfl) ?_
                                            refine pw_goto E (pc' := 219) rfl (by decide) ?_
                                            refine pw_add E (pc' := 220) rfl rfl ?_
                                            refine pw_nm (fun x307 hx307a hx307b => ?_)
                                            refine pw_ist E (pc' := 222) (ls' := [some (.ref 141), some (pw_i bk), some (pw_i b), some (pw_i e), some (pw_i wt), some (pw_i x307), some (pw_i k51_6), some (pw_i 1), some (pw_i 1), some (pw_i 1), some (pw_i 0)]) rfl rfl rfl rfl ?_
                                            refine pw_goto E (pc' := 269) rfl (by decide) ?_
                                            refine pw_inc E (pc' := 272) (ls' := [some (.ref 141), some (pw_i bk), some (pw_i b), some (pw_i e), some (pw_i wt), some (pw_i x307), some (pw_i (k51_6 + 1)), some (pw_i 1), some (pw_i 1), some (pw_i 1), some (pw_i 0)]) rfl rfl rfl rfl ?_
                                            refine pw_goto E (pc' := 51) rfl (by decide) ?_
                                            exact ih51 _ (by omega) (x307) (k51_6 + 1) (some (pw_i 1)) (some (pw_i 1)) (some (pw_i 1)) (some (pw_i 0))  (by omega) (by omega) (by omega) (by omega)  rfl
                                  · intro hc308
                                    change ¬ (wt ≠ (4 : Int)) at hc308
                                    refine pw_ld E (pc' := 163) (st' := [pw_i k51_5]) rfl (fun _ => rfl) ?_
                                    refine pw_ld E (pc' := 165) (st' := [pw_i 1, pw_i k51_5]) rfl (fun _ => rfl) ?_
                                    refine pw_if E (pc' := 179) rfl (by decide) (by decide) (by decide) ?_ ?_
                                    · intro hc309
                                      change (1 : Int) = (0 : Int) at hc309
                                      exfalso; omega
                                    · intro hc310
                                      change ¬ ((1 : Int) = (0 : Int)) at hc310
                                      refine pw_ld E (pc' := 169) (st' := [.ref 141, pw_i k51_5]) rfl (fun _ => rfl) ?_
                                      refine pw_ld E (pc' := 171) (st' := [pw_i k51_6, .ref 141, pw_i k51_5]) rfl (fun _ => rfl) ?_
                                      refine pw_ld E (pc' := 172) (st' := [pw_i b, pw_i k51_6, .ref 141, pw_i k51_5]) rfl (fun _ => rfl) ?_
                                      refine pw_ld E (pc' := 173) (st' := [pw_i e, pw_i b, pw_i k51_6, .ref 141, pw_i k51_5]) rfl (fun _ => rfl) ?_
                                      obtain ⟨f311l, f311h, -⟩ := pw_obj (c := 125) h19I rfl
                                      refine pw_call (m' := 215) (As := [.ref 141, pw_i k51_6, pw_i b, pw_i e]) (rest := [pw_i k51_5]) (ls'' := [some (.ref 141), some (pw_i k51_6), some (pw_i b), some (pw_i e)]) (Nat.le_trans (by decide) hd) E rfl (fun _ => pw_iV rfl rfl rfl rfl (pw_cellI f311h rfl)) (rfl : pm_ent 215 = some (4, 4, 12, 0, pmc_215)) rfl rfl (cm_215 (pw_dp hd (by decide)) h19I (k51_6) (by omega) (by omega) (b) (by omega) (by omega) (e) (by omega) (by omega)) ?_
                                      rintro u313 v312 ⟨rfl, x314, rfl, hx314a, hx314b⟩
                                      refine ⟨_, rfl, ?_⟩
                                      show pw X d h19 212 176 [some (.ref 141), some (pw_i bk), some (pw_i b), some (pw_i e), some (pw_i wt), some (pw_i k51_5), some (pw_i k51_6), some (pw_i 1), some (pw_i 1), some (pw_i 1), some (pw_i 0)] [pw_i x314, pw_i k51_5] _
                                      refine pw_goto E (pc' := 180) rfl (by decide) ?_
                                      refine pw_add E (pc' := 181) rfl rfl ?_
                                      refine pw_nm (fun x315 hx315a hx315b => ?_)
                                      refine pw_ist E (pc' := 183) (ls' := [some (.ref 141), some (pw_i bk), some (pw_i b), some (pw_i e), some (pw_i wt), some (pw_i x315), some (pw_i k51_6), some (pw_i 1), some (pw_i 1), some (pw_i 1), some (pw_i 0)]) rfl rfl rfl rfl ?_
                                      refine pw_goto E (pc' := 269) rfl (by decide) ?_
                                      refine pw_inc E (pc' := 272) (ls' := [some (.ref 141), some (pw_i bk), some (pw_i b), some (pw_i e), some (pw_i wt), some (pw_i x315), some (pw_i (k51_6 + 1)), some (pw_i 1), some (pw_i 1), some (pw_i 1), some (pw_i 0)]) rfl rfl rfl rfl ?_
                                      refine pw_goto E (pc' := 51) rfl (by decide) ?_
                                      exact ih51 _ (by omega) (x315) (k51_6 + 1) (some (pw_i 1)) (some (pw_i 1)) (some (pw_i 1)) (some (pw_i 0))  (by omega) (by omega) (by omega) (by omega)  rfl
                                · intro hc316
                                  change ¬ (pw_g h19 138 (((12 * k51_6) + e).toNat) ≠ (2 : Int)) at hc316
                                  refine pw_ld E (pc' := 149) (st' := [pw_i 1]) rfl (fun _ => rfl) ?_
                                  refine pw_goto E (pc' := 153) rfl (by decide) ?_
                                  refine pw_ist E (pc' := 155) (ls' := [some (.ref 141), some (pw_i bk), some (pw_i b), some (pw_i e), some (pw_i wt), some (pw_i k51_5), some (pw_i k51_6), some (pw_i 1), some (pw_i 1), some (pw_i 1), some (pw_i 1)]) rfl rfl rfl rfl ?_
                                  refine pw_ld E (pc' := 157) (st' := [pw_i wt]) rfl (fun _ => rfl) ?_
                                  refine pw_ld E (pc' := 158) (st' := [pw_i 4, pw_i wt]) rfl (fun _ => rfl) ?_
                                  refine pw_if2 E (pc' := 186) rfl (by decide) (by omega) (by omega) (by decide) (by decide) ?_ ?_
                                  · intro hc317
                                    change wt ≠ (4 : Int) at hc317
                                    refine pw_ld E (pc' := 188) (st' := [pw_i wt]) rfl (fun _ => rfl) ?_
                                    refine pw_ld E (pc' := 189) (st' := [pw_i 2, pw_i wt]) rfl (fun _ => rfl) ?_
                                    refine pw_if2 E (pc' := 225) rfl (by decide) (by omega) (by omega) (by decide) (by decide) ?_ ?_
                                    · intro hc318
                                      change (2 : Int) ≤ wt at hc318
                                      refine pw_ld E (pc' := 227) (st' := [pw_i k51_5]) rfl (fun _ => rfl) ?_
                                      refine pw_ld E (pc' := 229) (st' := [pw_i 1, pw_i k51_5]) rfl (fun _ => rfl) ?_
                                      refine pw_if E (pc' := 265) rfl (by decide) (by decide) (by decide) ?_ ?_
                                      · intro hc319
                                        change (1 : Int) = (0 : Int) at hc319
                                        exfalso; omega
                                      · intro hc320
                                        change ¬ ((1 : Int) = (0 : Int)) at hc320
                                        refine pw_ld E (pc' := 234) (st' := [pw_i wt, pw_i k51_5]) rfl (fun _ => rfl) ?_
                                        refine pw_ld E (pc' := 235) (st' := [pw_i 2, pw_i wt, pw_i k51_5]) rfl (fun _ => rfl) ?_
                                        refine pw_if2 E (pc' := 251) rfl (by decide) (by omega) (by omega) (by decide) (by decide) ?_ ?_
                                        · intro hc321
                                          change wt ≠ (2 : Int) at hc321
                                          refine pw_ld E (pc' := 253) (st' := [pw_i 1, pw_i k51_5]) rfl (fun _ => rfl) ?_
                                          refine pw_if E (pc' := 265) rfl (by decide) (by decide) (by decide) ?_ ?_
                                          · intro hc322
                                            change (1 : Int) = (0 : Int) at hc322
                                            exfalso; omega
                                          · intro hc323
                                            change ¬ ((1 : Int) = (0 : Int)) at hc323
                                            refine pw_ld E (pc' := 258) (st' := [pw_i 1, pw_i k51_5]) rfl (fun _ => rfl) ?_
                                            refine pw_if E (pc' := 265) rfl (by decide) (by decide) (by decide) ?_ ?_
                                            · intro hc324
                                              change (1 : Int) ≠ (0 : Int) at hc324
                                              refine pw_ld E (pc' := 266) (st' := [pw_i 0, pw_i k51_5]) rfl (fun _ => rfl) ?_
                                              refine pw_add E (pc' := 267) rfl rfl ?_
                                              refine pw_ist E (pc' := 269) (ls' := [some (.ref 141), some (pw_i bk), some (pw_i b), some (pw_i e), some (pw_i wt), some (pw_i (k51_5 + 0)), some (pw_i k51_6), some (pw_i 1), some (pw_i 1), some (pw_i 1), some (pw_i 1)]) rfl rfl rfl rfl ?_
                                              refine pw_inc E (pc' := 272) (ls' := [some (.ref 141), some (pw_i bk), some (pw_i b), some (pw_i e), some (pw_i wt), some (pw_i (k51_5 + 0)), some (pw_i (k51_6 + 1)), some (pw_i 1), some (pw_i 1), some (pw_i 1), some (pw_i 1)]) rfl rfl rfl rfl ?_
                                              refine pw_goto E (pc' := 51) rfl (by decide) ?_
                                              exact ih51 _ (by omega) (k51_5 + 0) (k51_6 + 1) (some (pw_i 1)) (some (pw_i 1)) (some (pw_i 1)) (some (pw_i 1))  (by omega) (by omega) (by omega) (by omega)  rfl
                                            · intro hc325
                                              change ¬ ((1 : Int) ≠ (0 : Int)) at hc325
                                              exfalso; omega
                                        · intro hc326
                                          change ¬ (wt ≠ (2 : Int)) at hc326
                                          refine pw_ld E (pc' := 240) (st' := [pw_i 1, pw_i k51_5]) rfl (fun _ => rfl) ?_
                                          refine pw_if E (pc' := 265) rfl (by decide) (by decide) (by decide) ?_ ?_
                                          · intro hc327
                                            change (1 : Int) = (0 : Int) at hc327
                                            exfalso; omega
                                          · intro hc328
                                            change ¬ ((1 : Int) = (0 : Int)) at hc328
                                            refine pw_ld E (pc' := 245) (st' := [pw_i 1, pw_i k51_5]) rfl (fun _ => rfl) ?_
                                            refine pw_if E (pc' := 265) rfl (by decide) (by decide) (by decide) ?_ ?_
                                            · intro hc329
                                              change (1 : Int) ≠ (0 : Int) at hc329
                                              refine pw_ld E (pc' := 266) (st' := [pw_i 0, pw_i k51_5]) rfl (fun _ => rfl) ?_
                                              refine pw_add E (pc' := 267) rfl rfl ?_
                                              refine pw_ist E (pc' := 269) (ls' := [some (.ref 141), some (pw_i bk), some (pw_i b), some (pw_i e), some (pw_i wt), some (pw_i (k51_5 + 0)), some (pw_i k51_6), some (pw_i 1), some (pw_i 1), some (pw_i 1), some (pw_i 1)]) rfl rfl rfl rfl ?_
                                              refine pw_inc E (pc' := 272) (ls' := [some (.ref 141), some (pw_i bk), some (pw_i b), some (pw_i e), some (pw_i wt), some (pw_i (k51_5 + 0)), some (pw_i (k51_6 + 1)), some (pw_i 1), some (pw_i 1), some (pw_i 1), some (pw_i 1)]) rfl rfl rfl rfl ?_
                                              refine pw_goto E (pc' := 51) rfl (by decide) ?_
                                              exact ih51 _ (by omega) (k51_5 + 0) (k51_6 + 1) (some (pw_i 1)) (some (pw_i 1)) (some (pw_i 1)) (some (pw_i 1))  (by omega) (by omega) (by omega) (by omega)  rfl
                                            · intro hc330
                                              change ¬ ((1 : Int) ≠ (0 : Int)) at hc330
                                              exfalso; omega
                                    · intro hc331
                                      change ¬ ((2 : Int) ≤ wt) at hc331
                                      refine pw_ld E (pc' := 194) (st' := [pw_i k51_5]) rfl (fun _ => rfl) ?_
                                      refine pw_ld E (pc' := 196) (st' := [pw_i 1, pw_i k51_5]) rfl (fun _ => rfl) ?_
                                      refine pw_if E (pc' := 218) rfl (by decide) (by decide) (by decide) ?_ ?_
                                      · intro hc332
                                        change (1 : Int) = (0 : Int) at hc332
                                        exfalso; omega
                                      · intro hc333
                                        change ¬ ((1 : Int) = (0 : Int)) at hc333
                                        refine pw_ld E (pc' := 201) (st' := [pw_i 1, pw_i k51_5]) rfl (fun _ => rfl) ?_
                                        refine pw_ld E (pc' := 203) (st' := [pw_i wt, pw_i 1, pw_i k51_5]) rfl (fun _ => rfl) ?_
                                        refine pw_if E (pc' := 210) rfl (by decide) (by omega) (by omega) ?_ ?_
                                        · intro hc334
                                          change wt ≠ (0 : Int) at hc334
                                          refine pw_ld E (pc' := 211) (st' := [pw_i 0, pw_i 1, pw_i k51_5]) rfl (fun _ => rfl) ?_
                                          refine pw_if2 E (pc' := 218) rfl (by decide) (by decide) (by decide) (by decide) (by decide) ?_ ?_
                                          · intro hc335
                                            change (1 : Int) ≠ (0 : Int) at hc335
                                            refine pw_ld E (pc' := 219) (st' := [pw_i 0, pw_i k51_5]) rfl (fun _ => rfl) ?_
                                            refine pw_add E (pc' := 220) rfl rfl ?_
                                            refine pw_ist E (pc' := 222) (ls' := [some (.ref 141), some (pw_i bk), some (pw_i b), some (pw_i e), some (pw_i wt), some (pw_i (k51_5 + 0)), some (pw_i k51_6), some (pw_i 1), some (pw_i 1), some (pw_i 1), some (pw_i 1)]) rfl rfl rfl rfl ?_
                                            refine pw_goto E (pc' := 269) rfl (by decide) ?_
                                            refine pw_inc E (pc' := 272) (ls' := [some (.ref 141), some (pw_i bk), some (pw_i b), some (pw_i e), some (pw_i wt), some (pw_i (k51_5 + 0)), some (pw_i (k51_6 + 1)), some (pw_i 1), some (pw_i 1), some (pw_i 1), some (pw_i 1)]) rfl rfl rfl rfl ?_
                                            refine pw_goto E (pc' := 51) rfl (by decide) ?_
                                            exact ih51 _ (by omega) (k51_5 + 0) (k51_6 + 1) (some (pw_i 1)) (some (pw_i 1)) (some (pw_i 1)) (some (pw_i 1))  (by omega) (by omega) (by omega) (by omega)  rfl
                                          · intro hc336
                                            change ¬ ((1 : Int) ≠ (0 : Int)) at hc336
                                            exfalso; omega
                                        · intro hc337
                                          change ¬ (wt ≠ (0 : Int)) at hc337
                                          refine pw_ld E (pc' := 207) (st' := [pw_i 1, pw_i 1, pw_i k51_5]) rfl (fun _ => rfl) ?_
                                          refine pw_goto E (pc' := 211) rfl (by decide) ?_
                                          refine pw_if2 E (pc' := 218) rfl (by decide) (by decide) (by decide) (by decide) (by decide) ?_ ?_
                                          · intro hc338
                                            change (1 : Int) ≠ (1 : Int) at hc338
                                            exfalso; omega
                                          · intro hc339
                                            change ¬ ((1 : Int) ≠ (1 : Int)) at hc339
                                            refine pw_ld E (pc' := 215) (st' := [pw_i 1, pw_i k51_5]) rfl (fun _ => rfl) ?_
                                            refine pw_goto E (pc' := 219) rfl (by decide) ?_
                                            refine pw_add E (pc' := 220) rfl rfl ?_
                                            refine pw_nm (fun x340 hx340a hx340b => ?_)
                                            refine pw_ist E (pc' := 222) (ls' := [some (.ref 141), some (pw_i bk), some (pw_i b), some (pw_i e), some (pw_i wt), some (pw_i x340), some (pw_i k51_6), some (pw_i 1), some (pw_i 1), some (pw_i 1), some (pw_i 1)]) rfl rfl rfl rfl ?_
                                            refine pw_goto E (pc' := 269) rfl (by decide) ?_
                                            refine pw_inc E (pc' := 272) (ls' := [some (.ref 141), some (pw_i bk), some (pw_i b), some (pw_i e), some (pw_i wt), some (pw_i x340), some (pw_i (k51_6 + 1)), some (pw_i 1), some (pw_i 1), some (pw_i 1), some (pw_i 1)]) rfl rfl rfl rfl ?_
                                            refine pw_goto E (pc' := 51) rfl (by decide) ?_
                                            exact ih51 _ (by omega) (x340) (k51_6 + 1) (some (pw_i 1)) (some (pw_i 1)) (some (pw_i 1)) (some (pw_i 1))  (by omega) (by omega) (by omega) (by omega)  rfl
                                  · intro hc341
                                    change ¬ (wt ≠ (4 : Int)) at hc341
                                    refine pw_ld E (pc' := 163) (st' := [pw_i k51_5]) rfl (fun _ => rfl) ?_
                                    refine pw_ld E (pc' := 165) (st' := [pw_i 1, pw_i k51_5]) rfl (fun _ => rfl) ?_
                                    refine pw_if E (pc' := 179) rfl (by decide) (by decide) (by decide) ?_ ?_
                                    · intro hc342
                                      change (1 : Int) = (0 : Int) at hc342
                                      exfalso; omega
                                    · intro hc343
                                      change ¬ ((1 : Int) = (0 : Int)) at hc343
                                      refine pw_ld E (pc' := 169) (st' := [.ref 141, pw_i k51_5]) rfl (fun _ => rfl) ?_
                                      refine pw_ld E (pc' := 171) (st' := [pw_i k51_6, .ref 141, pw_i k51_5]) rfl (fun _ => rfl) ?_
                                      refine pw_ld E (pc' := 172) (st' := [pw_i b, pw_i k51_6, .ref 141, pw_i k51_5]) rfl (fun _ => rfl) ?_
                                      refine pw_ld E (pc' := 173) (st' := [pw_i e, pw_i b, pw_i k51_6, .ref 141, pw_i k51_5]) rfl (fun _ => rfl) ?_
                                      obtain ⟨f344l, f344h, -⟩ := pw_obj (c := 125) h19I rfl
                                      refine pw_call (m' := 215) (As := [.ref 141, pw_i k51_6, pw_i b, pw_i e]) (rest := [pw_i k51_5]) (ls'' := [some (.ref 141), some (pw_i k51_6), some (pw_i b), some (pw_i e)]) (Nat.le_trans (by decide) hd) E rfl (fun _ => pw_iV rfl rfl rfl rfl (pw_cellI f344h rfl)) (rfl : pm_ent 215 = some (4, 4, 12, 0, pmc_215)) rfl rfl (cm_215 (pw_dp hd (by decide)) h19I (k51_6) (by omega) (by omega) (b) (by omega) (by omega) (e) (by omega) (by omega)) ?_
                                      rintro u346 v345 ⟨rfl, x347, rfl, hx347a, hx347b⟩
                                      refine ⟨_, rfl, ?_⟩
                                      show pw X d h19 212 176 [some (.ref 141), some (pw_i bk), some (pw_i b), some (pw_i e), some (pw_i wt), some (pw_i k51_5), some (pw_i k51_6), some (pw_i 1), some (pw_i 1), some (pw_i 1), some (pw_i 1)] [pw_i x347, pw_i k51_5] _
                                      refine pw_goto E (pc' := 180) rfl (by decide) ?_
                                      refine pw_add E (pc' := 181) rfl rfl ?_
                                      refine pw_nm (fun x348 hx348a hx348b => ?_)
                                      refine pw_ist E (pc' := 183) (ls' := [some (.ref 141), some (pw_i bk), some (pw_i b), some (pw_i e), some (pw_i wt), some (pw_i x348), some (pw_i k51_6), some (pw_i 1), some (pw_i 1), some (pw_i 1), some (pw_i 1)]) rfl rfl rfl rfl ?_
                                      refine pw_goto E (pc' := 269) rfl (by decide) ?_
                                      refine pw_inc E (pc' := 272) (ls' := [some (.ref 141), some (pw_i bk), some (pw_i b), some (pw_i e), some (pw_i wt), some (pw_i x348), some (pw_i (k51_6 + 1)), some (pw_i 1), some (pw_i 1), some (pw_i 1), some (pw_i 1)]) rfl rfl rfl rfl ?_
                                      refine pw_goto E (pc' := 51) rfl (by decide) ?_
                                      exact ih51 _ (by omega) (x348) (k51_6 + 1) (some (pw_i 1)) (some (pw_i 1)) (some (pw_i 1)) (some (pw_i 1))  (by omega) (by omega) (by omega) (by omega)  rfl
                exact L51 _ (0) (0) (none) (none) (none) (none)  (by omega) (by omega) (by omega) (by omega)  rfl
              · intro hc349
                change ¬ (pw_g h19 125 0 ≤ (0 : Int)) at hc349
                exfalso; omega
          · skip
            refine pw_if E (pc' := 32) rfl (by decide) (by omega) (by omega) ?_ ?_
            · intro hc351
              change x15 = (0 : Int) at hc351
              refine pw_ld E (pc' := 33) (st' := [pw_i 1, .ref 141]) rfl (fun _ => rfl) ?_
              refine pw_putI I E (c := 125) (k := 0) (pc' := 36) rfl rfl rfl rfl (by omega) (by omega) (by omega) (by omega) rfl rfl ?_
              intro h352I h352E
              generalize h352w : pw_w h 125 0 (pw_i 1) = h352 at h352I h352E ⊢
              have h352F := E0.tr (h352E.wk (W' := [125]) (by first | rfl | simp))
              refine pw_ld E (pc' := 37) (st' := [.ref 141]) rfl (fun _ => rfl) ?_
              have he354 : pw_g h352 125 0 = 1 := by rw [← h352w]; exact pw_g_eq (c := 125) (k := 0) I rfl rfl (by omega) (by omega)
              refine pw_getI2 h352I E (c := 125) (k := 0) (pc' := 40) rfl rfl rfl rfl rfl rfl (fun hf353a hf353b => ?_)
              refine pw_if E (pc' := 45) rfl (by decide) (by omega) (by omega) ?_ ?_
              · intro hc355
                change pw_g h352 125 0 ≤ (0 : Int) at hc355
                exfalso; omega
              · intro hc356
                change ¬ (pw_g h352 125 0 ≤ (0 : Int)) at hc356
                refine pw_ld E (pc' := 44) (st' := [pw_i 0]) rfl (fun _ => rfl) ?_
                refine pw_iret E rfl ?_
                exact ⟨h352I, h352F, ⟨_, rfl, by omega, by omega⟩⟩
            · intro hc357
              change ¬ (x15 = (0 : Int)) at hc357
              exfalso; omega
      · skip
        refine pw_if E (pc' := 32) rfl (by decide) (by omega) (by omega) ?_ ?_
        · intro hc359
          change x9 = (0 : Int) at hc359
          refine pw_ld E (pc' := 33) (st' := [pw_i 1, .ref 141]) rfl (fun _ => rfl) ?_
          refine pw_putI I E (c := 125) (k := 0) (pc' := 36) rfl rfl rfl rfl (by omega) (by omega) (by omega) (by omega) rfl rfl ?_
          intro h360I h360E
          generalize h360w : pw_w h 125 0 (pw_i 1) = h360 at h360I h360E ⊢
          have h360F := E0.tr (h360E.wk (W' := [125]) (by first | rfl | simp))
          refine pw_ld E (pc' := 37) (st' := [.ref 141]) rfl (fun _ => rfl) ?_
          have he362 : pw_g h360 125 0 = 1 := by rw [← h360w]; exact pw_g_eq (c := 125) (k := 0) I rfl rfl (by omega) (by omega)
          refine pw_getI2 h360I E (c := 125) (k := 0) (pc' := 40) rfl rfl rfl rfl rfl rfl (fun hf361a hf361b => ?_)
          refine pw_if E (pc' := 45) rfl (by decide) (by omega) (by omega) ?_ ?_
          · intro hc363
            change pw_g h360 125 0 ≤ (0 : Int) at hc363
            exfalso; omega
          · intro hc364
            change ¬ (pw_g h360 125 0 ≤ (0 : Int)) at hc364
            refine pw_ld E (pc' := 44) (st' := [pw_i 0]) rfl (fun _ => rfl) ?_
            refine pw_iret E rfl ?_
            exact ⟨h360I, h360F, ⟨_, rfl, by omega, by omega⟩⟩
        · intro hc365
          change ¬ (x9 = (0 : Int)) at hc365
          exfalso; omega
  · skip
    refine pw_if E (pc' := 32) rfl (by decide) (by omega) (by omega) ?_ ?_
    · intro hc367
      change x3 = (0 : Int) at hc367
      refine pw_ld E (pc' := 33) (st' := [pw_i 1, .ref 141]) rfl (fun _ => rfl) ?_
      refine pw_putI I E (c := 125) (k := 0) (pc' := 36) rfl rfl rfl rfl (by omega) (by omega) (by omega) (by omega) rfl rfl ?_
      intro h368I h368E
      generalize h368w : pw_w h 125 0 (pw_i 1) = h368 at h368I h368E ⊢
      have h368F := E0.tr (h368E.wk (W' := [125]) (by first | rfl | simp))
      refine pw_ld E (pc' := 37) (st' := [.ref 141]) rfl (fun _ => rfl) ?_
      have he370 : pw_g h368 125 0 = 1 := by rw [← h368w]; exact pw_g_eq (c := 125) (k := 0) I rfl rfl (by omega) (by omega)
      refine pw_getI2 h368I E (c := 125) (k := 0) (pc' := 40) rfl rfl rfl rfl rfl rfl (fun hf369a hf369b => ?_)
      refine pw_if E (pc' := 45) rfl (by decide) (by omega) (by omega) ?_ ?_
      · intro hc371
        change pw_g h368 125 0 ≤ (0 : Int) at hc371
        exfalso; omega
      · intro hc372
        change ¬ (pw_g h368 125 0 ≤ (0 : Int)) at hc372
        refine pw_ld E (pc' := 44) (st' := [pw_i 0]) rfl (fun _ => rfl) ?_
        refine pw_iret E rfl ?_
        exact ⟨h368I, h368F, ⟨_, rfl, by omega, by omega⟩⟩
    · intro hc373
      change ¬ (x3 = (0 : Int)) at hc373
      exfalso; omega
set_option maxHeartbeats 4000000 in
theorem cm_219 {X : List (Nat × List Value)} {d : Nat} {h : pm_H} (hd : 1 ≤ d) (I : pw_I h)  : pw X d h 219 0 [some (.ref 141)] [] (fun h' v => pw_I h' ∧ pw_E [125] h h' ∧ (pw_gm h' 125 27 = 0 ∧ pw_gm h' 125 29 = 0) ∧ (v = .inl none)) := by
  have E : pm_ent 219 = some (1, 1, 12, 4, pmc_219) := rfl
  have E0 : pw_E [125] h h := pw_E.rf _ _
  refine pw_ld E (pc' := 1) (st' := [.ref 141]) rfl (fun _ => rfl) ?_
  refine pw_ld E (pc' := 2) (st' := [.long (Int64.ofInt 0), .ref 141]) rfl (fun _ => rfl) ?_
  refine pw_putL I E (c := 125) (k := 26) (pc' := 5) rfl rfl rfl rfl rfl rfl ?_
  intro h1I h1E
  generalize h1w : pw_w h 125 26 (.long (Int64.ofInt 0)) = h1 at h1I h1E ⊢
  have h1F := E0.tr (h1E.wk (W' := [125]) (by first | rfl | simp))
  refine pw_ld E (pc' := 6) (st' := [.ref 141]) rfl (fun _ => rfl) ?_
  refine pw_ld E (pc' := 7) (st' := [.long (Int64.ofInt 0), .ref 141]) rfl (fun _ => rfl) ?_
  refine pw_putM h1I E (c := 125) (k := 27) (pc' := 10) rfl rfl rfl rfl (by omega) (by omega) (by omega) (by omega) rfl rfl ?_
  intro h2I h2E
  generalize h2w : pw_w h1 125 27 (.long (Int64.ofInt 0)) = h2 at h2I h2E ⊢
  have h2F := h1F.tr (h2E.wk (W' := [125]) (by first | rfl | simp))
  refine pw_ld E (pc' := 11) (st' := [.ref 141]) rfl (fun _ => rfl) ?_
  refine pw_ld E (pc' := 12) (st' := [.long (Int64.ofInt 0), .ref 141]) rfl (fun _ => rfl) ?_
  refine pw_putL h2I E (c := 125) (k := 28) (pc' := 15) rfl rfl rfl rfl rfl rfl ?_
  intro h3I h3E
  generalize h3w : pw_w h2 125 28 (.long (Int64.ofInt 0)) = h3 at h3I h3E ⊢
  have h3F := h2F.tr (h3E.wk (W' := [125]) (by first | rfl | simp))
  refine pw_ld E (pc' := 16) (st' := [.ref 141]) rfl (fun _ => rfl) ?_
  refine pw_ld E (pc' := 17) (st' := [.long (Int64.ofInt 0), .ref 141]) rfl (fun _ => rfl) ?_
  refine pw_putM h3I E (c := 125) (k := 29) (pc' := 20) rfl rfl rfl rfl (by omega) (by omega) (by omega) (by omega) rfl rfl ?_
  intro h4I h4E
  generalize h4w : pw_w h3 125 29 (.long (Int64.ofInt 0)) = h4 at h4I h4E ⊢
  have h4F := h3F.tr (h4E.wk (W' := [125]) (by first | rfl | simp))
  have he5 : pw_gm h4 125 27 = pw_gm h3 125 27 := by rw [← h4w]; exact pw_gm_ne (by omega)
  have he6 : pw_gm h3 125 27 = pw_gm h2 125 27 := by rw [← h3w]; exact pw_gm_ne (by omega)
  have he7 : pw_gm h2 125 27 = 0 := by rw [← h2w]; exact pw_gm_eq (c := 125) (k := 27) h1I rfl rfl (by omega) (by omega)
  have he8 : pw_gm h4 125 29 = 0 := by rw [← h4w]; exact pw_gm_eq (c := 125) (k := 29) h3I rfl rfl (by omega) (by omega)
  refine pw_vret E rfl ?_
  exact ⟨h4I, h4F, ⟨by omega, rfl⟩⟩
set_option maxHeartbeats 4000000 in
theorem cm_220 {X : List (Nat × List Value)} {d : Nat} {h : pm_H} (hd : 1 ≤ d) (I : pw_I h) (z : Int) (hz1 : 0 ≤ z) (hz2 : z ≤ 1) (ch : Int64) (hp0 : pw_gm h 125 27 + pw_gm h 125 29 ≤ 23) (hp1 : 0 ≤ pw_gm h 125 27) (hp2 : 0 ≤ pw_gm h 125 29) : pw X d h 220 0 [some (.ref 141), some (pw_i z), some (.long ch), none] [] (fun h' v => pw_I h' ∧ pw_E [125] h h' ∧ (pw_gm h' 125 27 + pw_gm h' 125 29 = pw_gm h 125 27 + pw_gm h 125 29 + 1 ∧ 0 ≤ pw_gm h' 125 27 ∧ 0 ≤ pw_gm h' 125 29) ∧ (v = .inl none)) := by
  have E : pm_ent 220 = some (3, 4, 12, 4, pmc_220) := rfl
  have E0 : pw_E [125] h h := pw_E.rf _ _
  refine pw_ld E (pc' := 1) (st' := [.ref 141]) rfl (fun _ => rfl) ?_
  refine pw_ld E (pc' := 2) (st' := [.ref 141, .ref 141]) rfl (fun _ => rfl) ?_
  refine pw_getL I E (c := 125) (k := 26) (pc' := 5) rfl rfl rfl rfl rfl rfl ?_
  refine pw_ld E (pc' := 6) (st' := [pw_i z, .long (pw_gl h 125 26), .ref 141]) rfl (fun _ => rfl) ?_
  refine pw_if E (pc' := 13) rfl (by decide) (by omega) (by omega) ?_ ?_
  · intro hc1
    change z = (0 : Int) at hc1
    refine pw_ld E (pc' := 14) (st' := [.long (Int64.ofInt 0), .long (pw_gl h 125 26), .ref 141]) rfl (fun _ => rfl) ?_
    refine pw_ld E (pc' := 15) (st' := [.long ((pw_gl h 125 26) + (Int64.ofInt 0)), .ref 141]) rfl (fun _ => rfl) ?_
    refine pw_putL I E (c := 125) (k := 26) (pc' := 18) rfl rfl rfl rfl rfl rfl ?_
    intro h2I h2E
    generalize h2w : pw_w h 125 26 (.long ((pw_gl h 125 26) + (Int64.ofInt 0))) = h2 at h2I h2E ⊢
    have h2F := E0.tr (h2E.wk (W' := [125]) (by first | rfl | simp))
    refine pw_ld E (pc' := 19) (st' := [.ref 141]) rfl (fun _ => rfl) ?_
    refine pw_ld E (pc' := 20) (st' := [.ref 141, .ref 141]) rfl (fun _ => rfl) ?_
    have he4 : pw_gm h2 125 27 = pw_gm h 125 27 := by rw [← h2w]; exact pw_gm_ne (by omega)
    refine pw_getM h2I E (c := 125) (k := 27) (pc' := 23) rfl rfl rfl rfl rfl rfl (fun hf3a hf3b => ?_)
    refine pw_ld E (pc' := 24) (st' := [pw_i z, .long (Int64.ofInt (pw_gm h2 125 27)), .ref 141]) rfl (fun _ => rfl) ?_
    refine pw_if E (pc' := 31) rfl (by decide) (by omega) (by omega) ?_ ?_
    · intro hc5
      change z = (0 : Int) at hc5
      refine pw_ld E (pc' := 32) (st' := [.long (Int64.ofInt 0), .long (Int64.ofInt (pw_gm h2 125 27)), .ref 141]) rfl (fun _ => rfl) ?_
      refine pw_ladd E (pc' := 33) rfl rfl ?_
      refine pw_putM h2I E (c := 125) (k := 27) (pc' := 36) rfl rfl rfl rfl (by omega) (by omega) (by omega) (by omega) rfl rfl ?_
      intro h6I h6E
      generalize h6w : pw_w h2 125 27 (.long (Int64.ofInt ((pw_gm h2 125 27) + 0))) = h6 at h6I h6E ⊢
      have h6F := h2F.tr (h6E.wk (W' := [125]) (by first | rfl | simp))
      refine pw_ld E (pc' := 37) (st' := [.ref 141]) rfl (fun _ => rfl) ?_
      refine pw_ld E (pc' := 38) (st' := [.ref 141, .ref 141]) rfl (fun _ => rfl) ?_
      refine pw_getL h6I E (c := 125) (k := 28) (pc' := 41) rfl rfl rfl rfl rfl rfl ?_
      refine pw_ld E (pc' := 42) (st' := [pw_i z, .long (pw_gl h6 125 28), .ref 141]) rfl (fun _ => rfl) ?_
      refine pw_if E (pc' := 49) rfl (by decide) (by omega) (by omega) ?_ ?_
      · intro hc7
        change z = (0 : Int) at hc7
        refine pw_ld E (pc' := 50) (st' := [.long ch, .long (pw_gl h6 125 28), .ref 141]) rfl (fun _ => rfl) ?_
        refine pw_ld E (pc' := 51) (st' := [.long ((pw_gl h6 125 28) + ch), .ref 141]) rfl (fun _ => rfl) ?_
        refine pw_putL h6I E (c := 125) (k := 28) (pc' := 54) rfl rfl rfl rfl rfl rfl ?_
        intro h8I h8E
        generalize h8w : pw_w h6 125 28 (.long ((pw_gl h6 125 28) + ch)) = h8 at h8I h8E ⊢
        have h8F := h6F.tr (h8E.wk (W' := [125]) (by first | rfl | simp))
        refine pw_ld E (pc' := 55) (st' := [.ref 141]) rfl (fun _ => rfl) ?_
        refine pw_ld E (pc' := 56) (st' := [.ref 141, .ref 141]) rfl (fun _ => rfl) ?_
        have he10 : pw_gm h8 125 29 = pw_gm h6 125 29 := by rw [← h8w]; exact pw_gm_ne (by omega)
        have he11 : pw_gm h6 125 29 = pw_gm h2 125 29 := by rw [← h6w]; exact pw_gm_ne (by omega)
        have he12 : pw_gm h2 125 29 = pw_gm h 125 29 := by rw [← h2w]; exact pw_gm_ne (by omega)
        refine pw_getM h8I E (c := 125) (k := 29) (pc' := 59) rfl rfl rfl rfl rfl rfl (fun hf9a hf9b => ?_)
        refine pw_ld E (pc' := 60) (st' := [pw_i z, .long (Int64.ofInt (pw_gm h8 125 29)), .ref 141]) rfl (fun _ => rfl) ?_
        refine pw_if E (pc' := 67) rfl (by decide) (by omega) (by omega) ?_ ?_
        · intro hc13
          change z = (0 : Int) at hc13
          refine pw_ld E (pc' := 68) (st' := [.long (Int64.ofInt 1), .long (Int64.ofInt (pw_gm h8 125 29)), .ref 141]) rfl (fun _ => rfl) ?_
          refine pw_ladd E (pc' := 69) rfl rfl ?_
          refine pw_putM h8I E (c := 125) (k := 29) (pc' := 72) rfl rfl rfl rfl (by omega) (by omega) (by omega) (by omega) rfl rfl ?_
          intro h14I h14E
          generalize h14w : pw_w h8 125 29 (.long (Int64.ofInt ((pw_gm h8 125 29) + 1))) = h14 at h14I h14E ⊢
          have h14F := h8F.tr (h14E.wk (W' := [125]) (by first | rfl | simp))
          have he15 : pw_gm h14 125 27 = pw_gm h8 125 27 := by rw [← h14w]; exact pw_gm_ne (by omega)
          have he16 : pw_gm h8 125 27 = pw_gm h6 125 27 := by rw [← h8w]; exact pw_gm_ne (by omega)
          have he17 : pw_gm h6 125 27 = (pw_gm h2 125 27) + 0 := by rw [← h6w]; exact pw_gm_eq (c := 125) (k := 27) h2I rfl rfl (by omega) (by omega)
          have he18 : pw_gm h14 125 29 = (pw_gm h8 125 29) + 1 := by rw [← h14w]; exact pw_gm_eq (c := 125) (k := 29) h8I rfl rfl (by omega) (by omega)
          refine pw_vret E rfl ?_
          exact ⟨h14I, h14F, ⟨by omega, rfl⟩⟩
        · intro hc19
          change ¬ (z = (0 : Int)) at hc19
          exfalso; omega
      · intro hc20
        change ¬ (z = (0 : Int)) at hc20
        exfalso; omega
    · intro hc21
      change ¬ (z = (0 : Int)) at hc21
      exfalso; omega
  · intro hc22
    change ¬ (z = (0 : Int)) at hc22
    refine pw_ld E (pc' := 10) (st' := [.long ch, .long (pw_gl h 125 26), .ref 141]) rfl (fun _ => rfl) ?_
    refine pw_goto E (pc' := 14) rfl (by decide) ?_
    refine pw_ld E (pc' := 15) (st' := [.long ((pw_gl h 125 26) + ch), .ref 141]) rfl (fun _ => rfl) ?_
    refine pw_putL I E (c := 125) (k := 26) (pc' := 18) rfl rfl rfl rfl rfl rfl ?_
    intro h23I h23E
    generalize h23w : pw_w h 125 26 (.long ((pw_gl h 125 26) + ch)) = h23 at h23I h23E ⊢
    have h23F := E0.tr (h23E.wk (W' := [125]) (by first | rfl | simp))
    refine pw_ld E (pc' := 19) (st' := [.ref 141]) rfl (fun _ => rfl) ?_
    refine pw_ld E (pc' := 20) (st' := [.ref 141, .ref 141]) rfl (fun _ => rfl) ?_
    have he25 : pw_gm h23 125 27 = pw_gm h 125 27 := by rw [← h23w]; exact pw_gm_ne (by omega)
    refine pw_getM h23I E (c := 125) (k := 27) (pc' := 23) rfl rfl rfl rfl rfl rfl (fun hf24a hf24b => ?_)
    refine pw_ld E (pc' := 24) (st' := [pw_i z, .long (Int64.ofInt (pw_gm h23 125 27)), .ref 141]) rfl (fun _ => rfl) ?_
    refine pw_if E (pc' := 31) rfl (by decide) (by omega) (by omega) ?_ ?_
    · intro hc26
      change z = (0 : Int) at hc26
      exfalso; omega
    · intro hc27
      change ¬ (z = (0 : Int)) at hc27
      refine pw_ld E (pc' := 28) (st' := [.long (Int64.ofInt 1), .long (Int64.ofInt (pw_gm h23 125 27)), .ref 141]) rfl (fun _ => rfl) ?_
      refine pw_goto E (pc' := 32) rfl (by decide) ?_
      refine pw_ladd E (pc' := 33) rfl rfl ?_
      refine pw_putM h23I E (c := 125) (k := 27) (pc' := 36) rfl rfl rfl rfl (by omega) (by omega) (by omega) (by omega) rfl rfl ?_
      intro h28I h28E
      generalize h28w : pw_w h23 125 27 (.long (Int64.ofInt ((pw_gm h23 125 27) + 1))) = h28 at h28I h28E ⊢
      have h28F := h23F.tr (h28E.wk (W' := [125]) (by first | rfl | simp))
      refine pw_ld E (pc' := 37) (st' := [.ref 141]) rfl (fun _ => rfl) ?_
      refine pw_ld E (pc' := 38) (st' := [.ref 141, .ref 141]) rfl (fun _ => rfl) ?_
      refine pw_getL h28I E (c := 125) (k := 28) (pc' := 41) rfl rfl rfl rfl rfl rfl ?_
      refine pw_ld E (pc' := 42) (st' := [pw_i z, .long (pw_gl h28 125 28), .ref 141]) rfl (fun _ => rfl) ?_
      refine pw_if E (pc' := 49) rfl (by decide) (by omega) (by omega) ?_ ?_
      · intro hc29
        change z = (0 : Int) at hc29
        exfalso; omega
      · intro hc30
        change ¬ (z = (0 : Int)) at hc30
        refine pw_ld E (pc' := 46) (st' := [.long (Int64.ofInt 0), .long (pw_gl h28 125 28), .ref 141]) rfl (fun _ => rfl) ?_
        refine pw_goto E (pc' := 50) rfl (by decide) ?_
        refine pw_ld E (pc' := 51) (st' := [.long ((pw_gl h28 125 28) + (Int64.ofInt 0)), .ref 141]) rfl (fun _ => rfl) ?_
        refine pw_putL h28I E (c := 125) (k := 28) (pc' := 54) rfl rfl rfl rfl rfl rfl ?_
        intro h31I h31E
        generalize h31w : pw_w h28 125 28 (.long ((pw_gl h28 125 28) + (Int64.ofInt 0))) = h31 at h31I h31E ⊢
        have h31F := h28F.tr (h31E.wk (W' := [125]) (by first | rfl | simp))
        refine pw_ld E (pc' := 55) (st' := [.ref 141]) rfl (fun _ => rfl) ?_
        refine pw_ld E (pc' := 56) (st' := [.ref 141, .ref 141]) rfl (fun _ => rfl) ?_
        have he33 : pw_gm h31 125 29 = pw_gm h28 125 29 := by rw [← h31w]; exact pw_gm_ne (by omega)
        have he34 : pw_gm h28 125 29 = pw_gm h23 125 29 := by rw [← h28w]; exact pw_gm_ne (by omega)
        have he35 : pw_gm h23 125 29 = pw_gm h 125 29 := by rw [← h23w]; exact pw_gm_ne (by omega)
        refine pw_getM h31I E (c := 125) (k := 29) (pc' := 59) rfl rfl rfl rfl rfl rfl (fun hf32a hf32b => ?_)
        refine pw_ld E (pc' := 60) (st' := [pw_i z, .long (Int64.ofInt (pw_gm h31 125 29)), .ref 141]) rfl (fun _ => rfl) ?_
        refine pw_if E (pc' := 67) rfl (by decide) (by omega) (by omega) ?_ ?_
        · intro hc36
          change z = (0 : Int) at hc36
          exfalso; omega
        · intro hc37
          change ¬ (z = (0 : Int)) at hc37
          refine pw_ld E (pc' := 64) (st' := [.long (Int64.ofInt 0), .long (Int64.ofInt (pw_gm h31 125 29)), .ref 141]) rfl (fun _ => rfl) ?_
          refine pw_goto E (pc' := 68) rfl (by decide) ?_
          refine pw_ladd E (pc' := 69) rfl rfl ?_
          refine pw_putM h31I E (c := 125) (k := 29) (pc' := 72) rfl rfl rfl rfl (by omega) (by omega) (by omega) (by omega) rfl rfl ?_
          intro h38I h38E
          generalize h38w : pw_w h31 125 29 (.long (Int64.ofInt ((pw_gm h31 125 29) + 0))) = h38 at h38I h38E ⊢
          have h38F := h31F.tr (h38E.wk (W' := [125]) (by first | rfl | simp))
          have he39 : pw_gm h38 125 27 = pw_gm h31 125 27 := by rw [← h38w]; exact pw_gm_ne (by omega)
          have he40 : pw_gm h31 125 27 = pw_gm h28 125 27 := by rw [← h31w]; exact pw_gm_ne (by omega)
          have he41 : pw_gm h28 125 27 = (pw_gm h23 125 27) + 1 := by rw [← h28w]; exact pw_gm_eq (c := 125) (k := 27) h23I rfl rfl (by omega) (by omega)
          have he42 : pw_gm h38 125 29 = (pw_gm h31 125 29) + 0 := by rw [← h38w]; exact pw_gm_eq (c := 125) (k := 29) h31I rfl rfl (by omega) (by omega)
          refine pw_vret E rfl ?_
          exact ⟨h38I, h38F, ⟨by omega, rfl⟩⟩
set_option maxHeartbeats 4000000 in
theorem cm_221 {X : List (Nat × List Value)} {d : Nat} {h : pm_H} (hd : 1 ≤ d) (I : pw_I h)  : pw X d h 221 0 [some (.ref 141)] [] (fun h' v => pw_I h' ∧ pw_E [125] h h' ∧ ∃ a : Int, v = .inl (some (pw_i a)) ∧ 0 ≤ a ∧ a ≤ 1 ∧ ((a = 1 ∧ 1 ≤ pw_gm h' 125 25 ∧ pw_gm h' 125 25 ≤ 576) ∨ a = 0)) := by
  have E : pm_ent 221 = some (1, 1, 12, 1, pmc_221) := rfl
  have E0 : pw_E [125] h h := pw_E.rf _ _
  refine pw_ld E (pc' := 1) (st' := [.ref 141]) rfl (fun _ => rfl) ?_
  refine pw_ld E (pc' := 2) (st' := [.ref 141, .ref 141]) rfl (fun _ => rfl) ?_
  refine pw_getL I E (c := 125) (k := 26) (pc' := 5) rfl rfl rfl rfl rfl rfl ?_
  refine pw_ld E (pc' := 6) (st' := [.ref 141, .long (pw_gl h 125 26), .ref 141]) rfl (fun _ => rfl) ?_
  refine pw_getM I E (c := 125) (k := 29) (pc' := 9) rfl rfl rfl rfl rfl rfl (fun hf1a hf1b => ?_)
  refine pw_ld E (pc' := 10) (st' := [.long ((pw_gl h 125 26) * (Int64.ofInt (pw_gm h 125 29))), .ref 141]) rfl (fun _ => rfl) ?_
  refine pw_ld E (pc' := 11) (st' := [.ref 141, .long ((pw_gl h 125 26) * (Int64.ofInt (pw_gm h 125 29))), .ref 141]) rfl (fun _ => rfl) ?_
  refine pw_getL I E (c := 125) (k := 28) (pc' := 14) rfl rfl rfl rfl rfl rfl ?_
  refine pw_ld E (pc' := 15) (st' := [.ref 141, .long (pw_gl h 125 28), .long ((pw_gl h 125 26) * (Int64.ofInt (pw_gm h 125 29))), .ref 141]) rfl (fun _ => rfl) ?_
  refine pw_getM I E (c := 125) (k := 27) (pc' := 18) rfl rfl rfl rfl rfl rfl (fun hf2a hf2b => ?_)
  refine pw_ld E (pc' := 19) (st' := [.long ((pw_gl h 125 28) * (Int64.ofInt (pw_gm h 125 27))), .long ((pw_gl h 125 26) * (Int64.ofInt (pw_gm h 125 29))), .ref 141]) rfl (fun _ => rfl) ?_
  refine pw_ld E (pc' := 20) (st' := [.long (((pw_gl h 125 26) * (Int64.ofInt (pw_gm h 125 29))) - ((pw_gl h 125 28) * (Int64.ofInt (pw_gm h 125 27)))), .ref 141]) rfl (fun _ => rfl) ?_
  refine pw_putL I E (c := 125) (k := 24) (pc' := 23) rfl rfl rfl rfl rfl rfl ?_
  intro h3I h3E
  generalize h3w : pw_w h 125 24 (.long (((pw_gl h 125 26) * (Int64.ofInt (pw_gm h 125 29))) - ((pw_gl h 125 28) * (Int64.ofInt (pw_gm h 125 27))))) = h3 at h3I h3E ⊢
  have h3F := E0.tr (h3E.wk (W' := [125]) (by first | rfl | simp))
  refine pw_ld E (pc' := 24) (st' := [.ref 141]) rfl (fun _ => rfl) ?_
  refine pw_ld E (pc' := 25) (st' := [.ref 141, .ref 141]) rfl (fun _ => rfl) ?_
  have he5 : pw_gm h3 125 27 = pw_gm h 125 27 := by rw [← h3w]; exact pw_gm_ne (by omega)
  refine pw_getM h3I E (c := 125) (k := 27) (pc' := 28) rfl rfl rfl rfl rfl rfl (fun hf4a hf4b => ?_)
  refine pw_ld E (pc' := 29) (st' := [.ref 141, .long (Int64.ofInt (pw_gm h3 125 27)), .ref 141]) rfl (fun _ => rfl) ?_
  have he7 : pw_gm h3 125 29 = pw_gm h 125 29 := by rw [← h3w]; exact pw_gm_ne (by omega)
  refine pw_getM h3I E (c := 125) (k := 29) (pc' := 32) rfl rfl rfl rfl rfl rfl (fun hf6a hf6b => ?_)
  have hm8 := pw_mulB (a := pw_gm h3 125 27) (b := pw_gm h3 125 29) (A := 24) (B := 24) (by omega) (by omega) (by omega) (by omega)
  refine pw_lmul E (pc' := 33) rfl rfl ?_
  refine pw_putM h3I E (c := 125) (k := 25) (pc' := 36) rfl rfl rfl rfl (by omega) (by omega) (by omega) (by omega) rfl rfl ?_
  intro h9I h9E
  generalize h9w : pw_w h3 125 25 (.long (Int64.ofInt ((pw_gm h3 125 27) * (pw_gm h3 125 29)))) = h9 at h9I h9E ⊢
  have h9F := h3F.tr (h9E.wk (W' := [125]) (by first | rfl | simp))
  refine pw_ld E (pc' := 37) (st' := [.ref 141]) rfl (fun _ => rfl) ?_
  have he11 : pw_gm h9 125 25 = (pw_gm h3 125 27) * (pw_gm h3 125 29) := by rw [← h9w]; exact pw_gm_eq (c := 125) (k := 25) h3I rfl rfl (by omega) (by omega)
  refine pw_getM h9I E (c := 125) (k := 25) (pc' := 40) rfl rfl rfl rfl rfl rfl (fun hf10a hf10b => ?_)
  refine pw_ld E (pc' := 41) (st' := [.long (Int64.ofInt 0), .long (Int64.ofInt (pw_gm h9 125 25))]) rfl (fun _ => rfl) ?_
  refine pw_lcmpC E (pc' := 42) rfl rfl (by omega) (by omega) (by omega) (by omega) (fun c12 hc12 => ?_)
  refine pw_if E (pc' := 49) rfl (by decide) (by omega) (by omega) ?_ ?_
  · intro hc13
    change c12 ≤ (0 : Int) at hc13
    refine pw_ld E (pc' := 50) (st' := [pw_i 0]) rfl (fun _ => rfl) ?_
    refine pw_zret E rfl (by omega) ?_
    exact ⟨h9I, h9F, ⟨_, rfl, by omega, by omega, by omega⟩⟩
  · intro hc14
    change ¬ (c12 ≤ (0 : Int)) at hc14
    refine pw_ld E (pc' := 46) (st' := [pw_i 1]) rfl (fun _ => rfl) ?_
    refine pw_goto E (pc' := 50) rfl (by decide) ?_
    refine pw_zret E rfl (by omega) ?_
    exact ⟨h9I, h9F, ⟨_, rfl, by omega, by omega, by omega⟩⟩

