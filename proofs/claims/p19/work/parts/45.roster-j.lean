section
/-! contracts (printed by wip/tool/pwspec.py) -/
def pw_Lg (c : Nat) : Prop := c = 10 ∨ c = 12 ∨ c = 97 ∨ c = 106 ∨ c = 108 ∨ c = 111 ∨ c = 113 ∨ c = 116 ∨ c = 118 ∨ c = 121 ∨ c = 123
abbrev pw_LgF (c : Nat) : List pw_F := [(2, ((16 + (c + 1) : Nat) : Int), 0)]
theorem pw_Lg_o {c : Nat} (h : pw_Lg c) : pw_T[c]? = some (.inr (2, pw_LgF c)) := by
  rcases h with rfl | rfl | rfl | rfl | rfl | rfl | rfl | rfl | rfl | rfl | rfl <;> rfl
theorem pw_Lg_1 {c : Nat} (h : pw_Lg c) : pw_T[c + 1]? = some (.inl (0, 288, (-2), 9999)) := by
  rcases h with rfl | rfl | rfl | rfl | rfl | rfl | rfl | rfl | rfl | rfl | rfl <;> rfl
def pw_Fr (c : Nat) : Prop := c = 22 ∨ c = 23
abbrev pw_FrF (c : Nat) : List pw_F := [(1, 0, 0), (1, 0, 0)]
theorem pw_Fr_o {c : Nat} (h : pw_Fr c) : pw_T[c]? = some (.inr (1, pw_FrF c)) := by
  rcases h with rfl | rfl <;> rfl
def pw_Sc (c : Nat) : Prop := c = 39 ∨ c = 46 ∨ c = 53 ∨ c = 60 ∨ c = 67 ∨ c = 74 ∨ c = 81 ∨ c = 88
abbrev pw_ScF (c : Nat) : List pw_F := [(3, 0, 0), (0, 0, 1000), (2, ((16 + (c + 1) : Nat) : Int), 0), (2, ((16 + (c + 2) : Nat) : Int), 0), (2, ((16 + (c + 3) : Nat) : Int), 0), (2, ((16 + (c + 4) : Nat) : Int), 0), (2, ((16 + (c + 5) : Nat) : Int), 0)]
theorem pw_Sc_o {c : Nat} (h : pw_Sc c) : pw_T[c]? = some (.inr (7, pw_ScF c)) := by
  rcases h with rfl | rfl | rfl | rfl | rfl | rfl | rfl | rfl <;> rfl
theorem pw_Sc_1 {c : Nat} (h : pw_Sc c) : pw_T[c + 1]? = some (.inl (1, 4, 0, 1)) := by
  rcases h with rfl | rfl | rfl | rfl | rfl | rfl | rfl | rfl <;> rfl
theorem pw_Sc_2 {c : Nat} (h : pw_Sc c) : pw_T[c + 2]? = some (.inl (0, 4, 0, 1000)) := by
  rcases h with rfl | rfl | rfl | rfl | rfl | rfl | rfl | rfl <;> rfl
theorem pw_Sc_3 {c : Nat} (h : pw_Sc c) : pw_T[c + 3]? = some (.inl (0, 4, 0, 1000)) := by
  rcases h with rfl | rfl | rfl | rfl | rfl | rfl | rfl | rfl <;> rfl
theorem pw_Sc_4 {c : Nat} (h : pw_Sc c) : pw_T[c + 4]? = some (.inl (0, 4, 0, 11)) := by
  rcases h with rfl | rfl | rfl | rfl | rfl | rfl | rfl | rfl <;> rfl
theorem pw_Sc_5 {c : Nat} (h : pw_Sc c) : pw_T[c + 5]? = some (.inl (0, 40, (-2147483648), 2147483647)) := by
  rcases h with rfl | rfl | rfl | rfl | rfl | rfl | rfl | rfl <;> rfl
set_option maxHeartbeats 4000000 in
theorem cm_121 {X : List (Nat × List Value)} {d : Nat} {h : pm_H} (hd : 1 ≤ d) (I : pw_I h) (n : Int) (hn1 : (-2147483648) ≤ n) (hn2 : n ≤ 2147483647) (lo : Int) (hlo1 : (-2147483648) ≤ lo) (hlo2 : lo ≤ 2147483647) (hi : Int) (hhi1 : (-2147483648) ≤ hi) (hhi2 : hi ≤ 2147483647) : pw X d h 121 0 [some (pw_i n), some (pw_i lo), some (pw_i hi)] [] (fun h' v => h = h' ∧ ∃ a : Int, v = .inl (some (pw_i a)) ∧ 0 ≤ a ∧ a ≤ 1 ∧ ((a = 1 ∧ lo ≤ n ∧ n ≤ hi) ∨ (a = 0 ∧ ¬ (lo ≤ n ∧ n ≤ hi)))) := by
  have E : pm_ent 121 = some (3, 3, 11, 1, pmc_121) := rfl
  refine pw_ld E (pc' := 1) (st' := [pw_i n]) rfl (fun _ => rfl) ?_
  refine pw_ld E (pc' := 2) (st' := [pw_i lo, pw_i n]) rfl (fun _ => rfl) ?_
  refine pw_if2 E (pc' := 14) rfl (by decide) (by omega) (by omega) (by omega) (by omega) ?_ ?_
  · intro hc1
    change n < lo at hc1
    refine pw_ld E (pc' := 15) (st' := [pw_i 0]) rfl (fun _ => rfl) ?_
    refine pw_zret E rfl (by omega) ?_
    exact ⟨rfl, ⟨_, rfl, by omega, by omega, by omega⟩⟩
  · intro hc2
    change ¬ (n < lo) at hc2
    refine pw_ld E (pc' := 6) (st' := [pw_i n]) rfl (fun _ => rfl) ?_
    refine pw_ld E (pc' := 7) (st' := [pw_i hi, pw_i n]) rfl (fun _ => rfl) ?_
    refine pw_if2 E (pc' := 14) rfl (by decide) (by omega) (by omega) (by omega) (by omega) ?_ ?_
    · intro hc3
      change hi < n at hc3
      refine pw_ld E (pc' := 15) (st' := [pw_i 0]) rfl (fun _ => rfl) ?_
      refine pw_zret E rfl (by omega) ?_
      exact ⟨rfl, ⟨_, rfl, by omega, by omega, by omega⟩⟩
    · intro hc4
      change ¬ (hi < n) at hc4
      refine pw_ld E (pc' := 11) (st' := [pw_i 1]) rfl (fun _ => rfl) ?_
      refine pw_goto E (pc' := 15) rfl (by decide) ?_
      refine pw_zret E rfl (by omega) ?_
      exact ⟨rfl, ⟨_, rfl, by omega, by omega, by omega⟩⟩
set_option maxHeartbeats 4000000 in
theorem cm_120 {X : List (Nat × List Value)} {d : Nat} {h : pm_H} (hd : 2 ≤ d) (I : pw_I h) (n : Int) (hn1 : (-2147483648) ≤ n) (hn2 : n ≤ 2147483647) : pw X d h 120 0 [some (pw_i n)] [] (fun h' v => h = h' ∧ ∃ a : Int, v = .inl (some (pw_i a)) ∧ 0 ≤ a ∧ a ≤ 1 ∧ ((a = 1 ∧ 0 ≤ n ∧ n ≤ 23) ∨ (a = 0 ∧ ¬ (0 ≤ n ∧ n ≤ 23)))) := by
  have E : pm_ent 120 = some (1, 1, 11, 1, pmc_120) := rfl
  refine pw_ld E (pc' := 1) (st' := [pw_i n]) rfl (fun _ => rfl) ?_
  refine pw_ld E (pc' := 2) (st' := [pw_i 0, pw_i n]) rfl (fun _ => rfl) ?_
  refine pw_bip E (pc' := 4) rfl rfl (by decide) ?_
  refine pw_call (m' := 121) (As := [pw_i n, pw_i 0, pw_i 23]) (rest := []) (ls'' := [some (pw_i n), some (pw_i 0), some (pw_i 23)]) (Nat.le_trans (by decide) hd) E rfl (fun _ => pw_iS rfl rfl rfl) (rfl : pm_ent 121 = some (3, 3, 11, 1, pmc_121)) rfl rfl (cm_121 (pw_dp hd (by decide)) I (n) (by omega) (by omega) (0) (by omega) (by omega) (23) (by omega) (by omega)) ?_
  rintro u2 v1 ⟨rfl, x3, rfl, hx3a, hx3b, hx3r⟩
  refine ⟨_, rfl, ?_⟩
  show pw X d h 120 7 [some (pw_i n)] [pw_i x3] _
  change (x3 = 1 ∧ 0 ≤ n ∧ n ≤ 23) ∨ (x3 = 0 ∧ ¬ (0 ≤ n ∧ n ≤ 23)) at hx3r
  refine pw_zret E rfl (by omega) ?_
  exact ⟨rfl, ⟨_, rfl, by omega, by omega, by omega⟩⟩
set_option maxHeartbeats 4000000 in
theorem cm_122 {X : List (Nat × List Value)} {d : Nat} {h : pm_H} (hd : 2 ≤ d) (I : pw_I h) (n : Int) (hn1 : (-2147483648) ≤ n) (hn2 : n ≤ 2147483647) : pw X d h 122 0 [some (pw_i n)] [] (fun h' v => h = h' ∧ ∃ a : Int, v = .inl (some (pw_i a)) ∧ 0 ≤ a ∧ a ≤ 1 ∧ ((a = 1 ∧ 0 ≤ n ∧ n ≤ 1) ∨ (a = 0 ∧ ¬ (0 ≤ n ∧ n ≤ 1)))) := by
  have E : pm_ent 122 = some (1, 1, 11, 1, pmc_122) := rfl
  refine pw_ld E (pc' := 1) (st' := [pw_i n]) rfl (fun _ => rfl) ?_
  refine pw_ld E (pc' := 2) (st' := [pw_i 0, pw_i n]) rfl (fun _ => rfl) ?_
  refine pw_ld E (pc' := 3) (st' := [pw_i 1, pw_i 0, pw_i n]) rfl (fun _ => rfl) ?_
  refine pw_call (m' := 121) (As := [pw_i n, pw_i 0, pw_i 1]) (rest := []) (ls'' := [some (pw_i n), some (pw_i 0), some (pw_i 1)]) (Nat.le_trans (by decide) hd) E rfl (fun _ => pw_iS rfl rfl rfl) (rfl : pm_ent 121 = some (3, 3, 11, 1, pmc_121)) rfl rfl (cm_121 (pw_dp hd (by decide)) I (n) (by omega) (by omega) (0) (by omega) (by omega) (1) (by omega) (by omega)) ?_
  rintro u2 v1 ⟨rfl, x3, rfl, hx3a, hx3b, hx3r⟩
  refine ⟨_, rfl, ?_⟩
  show pw X d h 122 6 [some (pw_i n)] [pw_i x3] _
  change (x3 = 1 ∧ 0 ≤ n ∧ n ≤ 1) ∨ (x3 = 0 ∧ ¬ (0 ≤ n ∧ n ≤ 1)) at hx3r
  refine pw_zret E rfl (by omega) ?_
  exact ⟨rfl, ⟨_, rfl, by omega, by omega, by omega⟩⟩
set_option maxHeartbeats 4000000 in
theorem cm_125 {X : List (Nat × List Value)} {d : Nat} {h : pm_H} (hd : 2 ≤ d) (I : pw_I h) (n : Int) (hn1 : (-2147483648) ≤ n) (hn2 : n ≤ 2147483647) : pw X d h 125 0 [some (pw_i n)] [] (fun h' v => h = h' ∧ ∃ a : Int, v = .inl (some (pw_i a)) ∧ 0 ≤ a ∧ a ≤ 1 ∧ ((a = 1 ∧ 0 ≤ n ∧ n ≤ 11) ∨ (a = 0 ∧ ¬ (0 ≤ n ∧ n ≤ 11)))) := by
  have E : pm_ent 125 = some (1, 1, 11, 1, pmc_125) := rfl
  refine pw_ld E (pc' := 1) (st' := [pw_i n]) rfl (fun _ => rfl) ?_
  refine pw_ld E (pc' := 2) (st' := [pw_i 0, pw_i n]) rfl (fun _ => rfl) ?_
  refine pw_bip E (pc' := 4) rfl rfl (by decide) ?_
  refine pw_call (m' := 121) (As := [pw_i n, pw_i 0, pw_i 11]) (rest := []) (ls'' := [some (pw_i n), some (pw_i 0), some (pw_i 11)]) (Nat.le_trans (by decide) hd) E rfl (fun _ => pw_iS rfl rfl rfl) (rfl : pm_ent 121 = some (3, 3, 11, 1, pmc_121)) rfl rfl (cm_121 (pw_dp hd (by decide)) I (n) (by omega) (by omega) (0) (by omega) (by omega) (11) (by omega) (by omega)) ?_
  rintro u2 v1 ⟨rfl, x3, rfl, hx3a, hx3b, hx3r⟩
  refine ⟨_, rfl, ?_⟩
  show pw X d h 125 7 [some (pw_i n)] [pw_i x3] _
  change (x3 = 1 ∧ 0 ≤ n ∧ n ≤ 11) ∨ (x3 = 0 ∧ ¬ (0 ≤ n ∧ n ≤ 11)) at hx3r
  refine pw_zret E rfl (by omega) ?_
  exact ⟨rfl, ⟨_, rfl, by omega, by omega, by omega⟩⟩
set_option maxHeartbeats 4000000 in
theorem cm_142 {X : List (Nat × List Value)} {d : Nat} {h : pm_H} (hd : 2 ≤ d) (I : pw_I h) (n : Int) (hn1 : (-2147483648) ≤ n) (hn2 : n ≤ 2147483647) : pw X d h 142 0 [some (pw_i n)] [] (fun h' v => h = h' ∧ ∃ a : Int, v = .inl (some (pw_i a)) ∧ 0 ≤ a ∧ a ≤ 1 ∧ ((a = 1 ∧ 0 ≤ n ∧ n ≤ 3) ∨ (a = 0 ∧ ¬ (0 ≤ n ∧ n ≤ 3)))) := by
  have E : pm_ent 142 = some (1, 1, 11, 1, pmc_142) := rfl
  refine pw_ld E (pc' := 1) (st' := [pw_i n]) rfl (fun _ => rfl) ?_
  refine pw_ld E (pc' := 2) (st' := [pw_i 0, pw_i n]) rfl (fun _ => rfl) ?_
  refine pw_ld E (pc' := 3) (st' := [pw_i 3, pw_i 0, pw_i n]) rfl (fun _ => rfl) ?_
  refine pw_call (m' := 121) (As := [pw_i n, pw_i 0, pw_i 3]) (rest := []) (ls'' := [some (pw_i n), some (pw_i 0), some (pw_i 3)]) (Nat.le_trans (by decide) hd) E rfl (fun _ => pw_iS rfl rfl rfl) (rfl : pm_ent 121 = some (3, 3, 11, 1, pmc_121)) rfl rfl (cm_121 (pw_dp hd (by decide)) I (n) (by omega) (by omega) (0) (by omega) (by omega) (3) (by omega) (by omega)) ?_
  rintro u2 v1 ⟨rfl, x3, rfl, hx3a, hx3b, hx3r⟩
  refine ⟨_, rfl, ?_⟩
  show pw X d h 142 6 [some (pw_i n)] [pw_i x3] _
  change (x3 = 1 ∧ 0 ≤ n ∧ n ≤ 3) ∨ (x3 = 0 ∧ ¬ (0 ≤ n ∧ n ≤ 3)) at hx3r
  refine pw_zret E rfl (by omega) ?_
  exact ⟨rfl, ⟨_, rfl, by omega, by omega, by omega⟩⟩
set_option maxHeartbeats 4000000 in
theorem cm_137 {X : List (Nat × List Value)} {d : Nat} {h : pm_H} (hd : 2 ≤ d) (I : pw_I h) (n : Int) (hn1 : (-2147483648) ≤ n) (hn2 : n ≤ 2147483647) : pw X d h 137 0 [some (pw_i n)] [] (fun h' v => h = h' ∧ ∃ a : Int, v = .inl (some (pw_i a)) ∧ 0 ≤ a ∧ a ≤ 1 ∧ ((a = 1 ∧ 0 ≤ n ∧ n ≤ 1) ∨ (a = 0 ∧ ¬ (0 ≤ n ∧ n ≤ 1)))) := by
  have E : pm_ent 137 = some (1, 1, 11, 1, pmc_137) := rfl
  refine pw_ld E (pc' := 1) (st' := [pw_i n]) rfl (fun _ => rfl) ?_
  refine pw_ld E (pc' := 2) (st' := [pw_i 0, pw_i n]) rfl (fun _ => rfl) ?_
  refine pw_ld E (pc' := 3) (st' := [pw_i 1, pw_i 0, pw_i n]) rfl (fun _ => rfl) ?_
  refine pw_call (m' := 121) (As := [pw_i n, pw_i 0, pw_i 1]) (rest := []) (ls'' := [some (pw_i n), some (pw_i 0), some (pw_i 1)]) (Nat.le_trans (by decide) hd) E rfl (fun _ => pw_iS rfl rfl rfl) (rfl : pm_ent 121 = some (3, 3, 11, 1, pmc_121)) rfl rfl (cm_121 (pw_dp hd (by decide)) I (n) (by omega) (by omega) (0) (by omega) (by omega) (1) (by omega) (by omega)) ?_
  rintro u2 v1 ⟨rfl, x3, rfl, hx3a, hx3b, hx3r⟩
  refine ⟨_, rfl, ?_⟩
  show pw X d h 137 6 [some (pw_i n)] [pw_i x3] _
  change (x3 = 1 ∧ 0 ≤ n ∧ n ≤ 1) ∨ (x3 = 0 ∧ ¬ (0 ≤ n ∧ n ≤ 1)) at hx3r
  refine pw_zret E rfl (by omega) ?_
  exact ⟨rfl, ⟨_, rfl, by omega, by omega, by omega⟩⟩
set_option maxHeartbeats 4000000 in
theorem cm_174 {X : List (Nat × List Value)} {d : Nat} {h : pm_H} (hd : 2 ≤ d) (I : pw_I h) (n : Int) (hn1 : (-2147483648) ≤ n) (hn2 : n ≤ 2147483647) : pw X d h 174 0 [some (pw_i n)] [] (fun h' v => h = h' ∧ ∃ a : Int, v = .inl (some (pw_i a)) ∧ 0 ≤ a ∧ a ≤ 1 ∧ ((a = 1 ∧ 0 ≤ n ∧ n ≤ 3) ∨ (a = 0 ∧ ¬ (0 ≤ n ∧ n ≤ 3)))) := by
  have E : pm_ent 174 = some (1, 1, 11, 1, pmc_174) := rfl
  refine pw_ld E (pc' := 1) (st' := [pw_i n]) rfl (fun _ => rfl) ?_
  refine pw_ld E (pc' := 2) (st' := [pw_i 0, pw_i n]) rfl (fun _ => rfl) ?_
  refine pw_ld E (pc' := 3) (st' := [pw_i 3, pw_i 0, pw_i n]) rfl (fun _ => rfl) ?_
  refine pw_call (m' := 121) (As := [pw_i n, pw_i 0, pw_i 3]) (rest := []) (ls'' := [some (pw_i n), some (pw_i 0), some (pw_i 3)]) (Nat.le_trans (by decide) hd) E rfl (fun _ => pw_iS rfl rfl rfl) (rfl : pm_ent 121 = some (3, 3, 11, 1, pmc_121)) rfl rfl (cm_121 (pw_dp hd (by decide)) I (n) (by omega) (by omega) (0) (by omega) (by omega) (3) (by omega) (by omega)) ?_
  rintro u2 v1 ⟨rfl, x3, rfl, hx3a, hx3b, hx3r⟩
  refine ⟨_, rfl, ?_⟩
  show pw X d h 174 6 [some (pw_i n)] [pw_i x3] _
  change (x3 = 1 ∧ 0 ≤ n ∧ n ≤ 3) ∨ (x3 = 0 ∧ ¬ (0 ≤ n ∧ n ≤ 3)) at hx3r
  refine pw_zret E rfl (by omega) ?_
  exact ⟨rfl, ⟨_, rfl, by omega, by omega, by omega⟩⟩
set_option maxHeartbeats 4000000 in
theorem cm_175 {X : List (Nat × List Value)} {d : Nat} {h : pm_H} (hd : 1 ≤ d) (I : pw_I h) (n : Int) (hn1 : (-2147483648) ≤ n) (hn2 : n ≤ 2147483647) : pw X d h 175 0 [some (pw_i n)] [] (fun h' v => h = h' ∧ ∃ a : Int, v = .inl (some (pw_i a)) ∧ 0 ≤ a ∧ a ≤ 1) := by
  have E : pm_ent 175 = some (1, 1, 11, 1, pmc_175) := rfl
  refine pw_ld E (pc' := 1) (st' := [pw_i n]) rfl (fun _ => rfl) ?_
  refine pw_ld E (pc' := 2) (st' := [pw_i 2, pw_i n]) rfl (fun _ => rfl) ?_
  refine pw_if2 E (pc' := 9) rfl (by decide) (by omega) (by omega) (by decide) (by decide) ?_ ?_
  · intro hc1
    change n < (2 : Int) at hc1
    refine pw_ld E (pc' := 10) (st' := [pw_i 0]) rfl (fun _ => rfl) ?_
    refine pw_zret E rfl (by omega) ?_
    exact ⟨rfl, ⟨_, rfl, by omega, by omega⟩⟩
  · intro hc2
    change ¬ (n < (2 : Int)) at hc2
    refine pw_ld E (pc' := 6) (st' := [pw_i 1]) rfl (fun _ => rfl) ?_
    refine pw_goto E (pc' := 10) rfl (by decide) ?_
    refine pw_zret E rfl (by omega) ?_
    exact ⟨rfl, ⟨_, rfl, by omega, by omega⟩⟩
set_option maxHeartbeats 4000000 in
theorem cm_176 {X : List (Nat × List Value)} {d : Nat} {h : pm_H} (hd : 1 ≤ d) (I : pw_I h) (n : Int) (hn1 : 0 ≤ n) (hn2 : n ≤ 3) : pw X d h 176 0 [some (pw_i n)] [] (fun h' v => h = h' ∧ ∃ a : Int, v = .inl (some (pw_i a)) ∧ 0 ≤ a ∧ a ≤ 1) := by
  have E : pm_ent 176 = some (1, 1, 11, 0, pmc_176) := rfl
  refine pw_ld E (pc' := 1) (st' := [pw_i n]) rfl (fun _ => rfl) ?_
  refine pw_ld E (pc' := 2) (st' := [pw_i 2, pw_i n]) rfl (fun _ => rfl) ?_
  refine pw_rem E (pc' := 3) rfl rfl (by omega) (by omega) (by decide) (by decide) ?_
  refine pw_iret E rfl ?_
  exact ⟨rfl, ⟨_, rfl, by omega, by omega⟩⟩
set_option maxHeartbeats 4000000 in
theorem cm_131 {X : List (Nat × List Value)} {d : Nat} {h : pm_H} (hd : 3 ≤ d) (I : pw_I h) (b : Int) (hb1 : (-2147483648) ≤ b) (hb2 : b ≤ 2147483647) (e : Int) (he1 : (-2147483648) ≤ e) (he2 : e ≤ 2147483647) : pw X d h 131 0 [some (pw_i b), some (pw_i e)] [] (fun h' v => h = h' ∧ ∃ a : Int, v = .inl (some (pw_i a)) ∧ 0 ≤ a ∧ a ≤ 1 ∧ ((a = 1 ∧ 0 ≤ b ∧ b ≤ 11 ∧ 0 ≤ e ∧ e ≤ 11) ∨ a = 0)) := by
  have E : pm_ent 131 = some (2, 2, 11, 1, pmc_131) := rfl
  refine pw_ld E (pc' := 1) (st' := [pw_i b]) rfl (fun _ => rfl) ?_
  refine pw_call (m' := 125) (As := [pw_i b]) (rest := []) (ls'' := [some (pw_i b)]) (Nat.le_trans (by decide) hd) E rfl (fun _ => pw_iS rfl rfl rfl) (rfl : pm_ent 125 = some (1, 1, 11, 1, pmc_125)) rfl rfl (cm_125 (pw_dp hd (by decide)) I (b) (by omega) (by omega)) ?_
  rintro u2 v1 ⟨rfl, x3, rfl, hx3a, hx3b, hx3r⟩
  refine ⟨_, rfl, ?_⟩
  show pw X d h 131 4 [some (pw_i b), some (pw_i e)] [pw_i x3] _
  change (x3 = 1 ∧ 0 ≤ b ∧ b ≤ 11) ∨ (x3 = 0 ∧ ¬ (0 ≤ b ∧ b ≤ 11)) at hx3r
  rcases (by omega : x3 = 1 ∨ x3 = 0) with hb4 | hb4
  · skip
    refine pw_if E (pc' := 23) rfl (by decide) (by omega) (by omega) ?_ ?_
    · intro hc5
      change x3 = (0 : Int) at hc5
      exfalso; omega
    · intro hc6
      change ¬ (x3 = (0 : Int)) at hc6
      refine pw_ld E (pc' := 8) (st' := [pw_i e]) rfl (fun _ => rfl) ?_
      refine pw_call (m' := 125) (As := [pw_i e]) (rest := []) (ls'' := [some (pw_i e)]) (Nat.le_trans (by decide) hd) E rfl (fun _ => pw_iS rfl rfl rfl) (rfl : pm_ent 125 = some (1, 1, 11, 1, pmc_125)) rfl rfl (cm_125 (pw_dp hd (by decide)) I (e) (by omega) (by omega)) ?_
      rintro u8 v7 ⟨rfl, x9, rfl, hx9a, hx9b, hx9r⟩
      refine ⟨_, rfl, ?_⟩
      show pw X d h 131 11 [some (pw_i b), some (pw_i e)] [pw_i x9] _
      change (x9 = 1 ∧ 0 ≤ e ∧ e ≤ 11) ∨ (x9 = 0 ∧ ¬ (0 ≤ e ∧ e ≤ 11)) at hx9r
      rcases (by omega : x9 = 1 ∨ x9 = 0) with hb10 | hb10
      · skip
        refine pw_if E (pc' := 23) rfl (by decide) (by omega) (by omega) ?_ ?_
        · intro hc11
          change x9 = (0 : Int) at hc11
          exfalso; omega
        · intro hc12
          change ¬ (x9 = (0 : Int)) at hc12
          refine pw_ld E (pc' := 15) (st' := [pw_i b]) rfl (fun _ => rfl) ?_
          refine pw_ld E (pc' := 16) (st' := [pw_i e, pw_i b]) rfl (fun _ => rfl) ?_
          refine pw_if2 E (pc' := 23) rfl (by decide) (by omega) (by omega) (by omega) (by omega) ?_ ?_
          · intro hc13
            change b = e at hc13
            refine pw_ld E (pc' := 24) (st' := [pw_i 0]) rfl (fun _ => rfl) ?_
            refine pw_zret E rfl (by omega) ?_
            exact ⟨rfl, ⟨_, rfl, by omega, by omega, by omega⟩⟩
          · intro hc14
            change ¬ (b = e) at hc14
            refine pw_ld E (pc' := 20) (st' := [pw_i 1]) rfl (fun _ => rfl) ?_
            refine pw_goto E (pc' := 24) rfl (by decide) ?_
            refine pw_zret E rfl (by omega) ?_
            exact ⟨rfl, ⟨_, rfl, by omega, by omega, by omega⟩⟩
      · skip
        refine pw_if E (pc' := 23) rfl (by decide) (by omega) (by omega) ?_ ?_
        · intro hc16
          change x9 = (0 : Int) at hc16
          refine pw_ld E (pc' := 24) (st' := [pw_i 0]) rfl (fun _ => rfl) ?_
          refine pw_zret E rfl (by omega) ?_
          exact ⟨rfl, ⟨_, rfl, by omega, by omega, by omega⟩⟩
        · intro hc17
          change ¬ (x9 = (0 : Int)) at hc17
          exfalso; omega
  · skip
    refine pw_if E (pc' := 23) rfl (by decide) (by omega) (by omega) ?_ ?_
    · intro hc19
      change x3 = (0 : Int) at hc19
      refine pw_ld E (pc' := 24) (st' := [pw_i 0]) rfl (fun _ => rfl) ?_
      refine pw_zret E rfl (by omega) ?_
      exact ⟨rfl, ⟨_, rfl, by omega, by omega, by omega⟩⟩
    · intro hc20
      change ¬ (x3 = (0 : Int)) at hc20
      exfalso; omega
set_option maxHeartbeats 4000000 in
theorem cm_59 {X : List (Nat × List Value)} {d : Nat} {h : pm_H} (hd : 1 ≤ d) (I : pw_I h) (k : Int) (hk1 : 0 ≤ k) (hk2 : k ≤ 23) : pw X d h 59 0 [some (.ref 17), some (pw_i k)] [] (fun h' v => h = h' ∧ ∃ a : Int, v = .inl (some (pw_i a)) ∧ 0 ≤ a ∧ a ≤ 1 ∧ (a = pw_g h 2 k.toNat)) := by
  have E : pm_ent 59 = some (2, 2, 6, 1, pmc_59) := rfl
  refine pw_ld E (pc' := 1) (st' := [.ref 17]) rfl (fun _ => rfl) ?_
  refine pw_getR (b := 18) I E (c := 1) (k := 0) (pc' := 4) rfl rfl rfl rfl rfl rfl rfl ?_
  refine pw_ld E (pc' := 5) (st' := [pw_i k, .ref 18]) rfl (fun _ => rfl) ?_
  refine pw_ald2 I E (c := 2) (pc' := 6) rfl rfl rfl (by decide) rfl (by decide) (by omega) (by omega) rfl (fun hf1a hf1b => ?_)
  refine pw_zret E rfl (by omega) ?_
  exact ⟨rfl, ⟨_, rfl, by omega, by omega, by omega⟩⟩
set_option maxHeartbeats 4000000 in
theorem cm_65 {X : List (Nat × List Value)} {d : Nat} {h : pm_H} (hd : 1 ≤ d) (I : pw_I h) (k : Int) (hk1 : 0 ≤ k) (hk2 : k ≤ 23) : pw X d h 65 0 [some (.ref 17), some (pw_i k)] [] (fun h' v => h = h' ∧ ∃ a : Int, v = .inl (some (pw_i a)) ∧ 0 ≤ a ∧ a ≤ 1 ∧ (a = pw_g h 3 k.toNat)) := by
  have E : pm_ent 65 = some (2, 2, 6, 1, pmc_65) := rfl
  refine pw_ld E (pc' := 1) (st' := [.ref 17]) rfl (fun _ => rfl) ?_
  refine pw_getR (b := 19) I E (c := 1) (k := 1) (pc' := 4) rfl rfl rfl rfl rfl rfl rfl ?_
  refine pw_ld E (pc' := 5) (st' := [pw_i k, .ref 19]) rfl (fun _ => rfl) ?_
  refine pw_ald2 I E (c := 3) (pc' := 6) rfl rfl rfl (by decide) rfl (by decide) (by omega) (by omega) rfl (fun hf1a hf1b => ?_)
  refine pw_zret E rfl (by omega) ?_
  exact ⟨rfl, ⟨_, rfl, by omega, by omega, by omega⟩⟩
set_option maxHeartbeats 4000000 in
theorem cm_60 {X : List (Nat × List Value)} {d : Nat} {h : pm_H} (hd : 1 ≤ d) (I : pw_I h) (k : Int) (hk1 : 0 ≤ k) (hk2 : k ≤ 23) : pw X d h 60 0 [some (.ref 17), some (pw_i k)] [] (fun h' v => h = h' ∧ ∃ a : Int, v = .inl (some (pw_i a)) ∧ 0 ≤ a ∧ a ≤ 1 ∧ (a = pw_g h 4 k.toNat)) := by
  have E : pm_ent 60 = some (2, 2, 6, 0, pmc_60) := rfl
  refine pw_ld E (pc' := 1) (st' := [.ref 17]) rfl (fun _ => rfl) ?_
  refine pw_getR (b := 20) I E (c := 1) (k := 2) (pc' := 4) rfl rfl rfl rfl rfl rfl rfl ?_
  refine pw_ld E (pc' := 5) (st' := [pw_i k, .ref 20]) rfl (fun _ => rfl) ?_
  refine pw_ald2 I E (c := 4) (pc' := 6) rfl rfl rfl (by decide) rfl (by decide) (by omega) (by omega) rfl (fun hf1a hf1b => ?_)
  refine pw_iret E rfl ?_
  exact ⟨rfl, ⟨_, rfl, by omega, by omega, by omega⟩⟩
set_option maxHeartbeats 4000000 in
theorem cm_64 {X : List (Nat × List Value)} {d : Nat} {h : pm_H} (hd : 1 ≤ d) (I : pw_I h) (k : Int) (hk1 : 0 ≤ k) (hk2 : k ≤ 23) : pw X d h 64 0 [some (.ref 17), some (pw_i k)] [] (fun h' v => h = h' ∧ ∃ a : Int, v = .inl (some (pw_i a)) ∧ 0 ≤ a ∧ a ≤ 999 ∧ (a = pw_g h 5 k.toNat)) := by
  have E : pm_ent 64 = some (2, 2, 6, 0, pmc_64) := rfl
  refine pw_ld E (pc' := 1) (st' := [.ref 17]) rfl (fun _ => rfl) ?_
  refine pw_getR (b := 21) I E (c := 1) (k := 3) (pc' := 4) rfl rfl rfl rfl rfl rfl rfl ?_
  refine pw_ld E (pc' := 5) (st' := [pw_i k, .ref 21]) rfl (fun _ => rfl) ?_
  refine pw_ald2 I E (c := 5) (pc' := 6) rfl rfl rfl (by decide) rfl (by decide) (by omega) (by omega) rfl (fun hf1a hf1b => ?_)
  refine pw_iret E rfl ?_
  exact ⟨rfl, ⟨_, rfl, by omega, by omega, by omega⟩⟩
set_option maxHeartbeats 4000000 in
theorem cm_61 {X : List (Nat × List Value)} {d : Nat} {h : pm_H} (hd : 1 ≤ d) (I : pw_I h) (k : Int) (hk1 : 0 ≤ k) (hk2 : k ≤ 23) : pw X d h 61 0 [some (.ref 17), some (pw_i k)] [] (fun h' v => h = h' ∧ ∃ a : Int, v = .inl (some (pw_i a)) ∧ 0 ≤ a ∧ a ≤ 99 ∧ (a = pw_g h 6 k.toNat)) := by
  have E : pm_ent 61 = some (2, 2, 6, 0, pmc_61) := rfl
  refine pw_ld E (pc' := 1) (st' := [.ref 17]) rfl (fun _ => rfl) ?_
  refine pw_getR (b := 22) I E (c := 1) (k := 4) (pc' := 4) rfl rfl rfl rfl rfl rfl rfl ?_
  refine pw_ld E (pc' := 5) (st' := [pw_i k, .ref 22]) rfl (fun _ => rfl) ?_
  refine pw_ald2 I E (c := 6) (pc' := 6) rfl rfl rfl (by decide) rfl (by decide) (by omega) (by omega) rfl (fun hf1a hf1b => ?_)
  refine pw_iret E rfl ?_
  exact ⟨rfl, ⟨_, rfl, by omega, by omega, by omega⟩⟩
set_option maxHeartbeats 4000000 in
theorem cm_63 {X : List (Nat × List Value)} {d : Nat} {h : pm_H} (hd : 1 ≤ d) (I : pw_I h) (k : Int) (hk1 : 0 ≤ k) (hk2 : k ≤ 23) (b : Int) (hb1 : (-2147483648) ≤ b) (hb2 : b ≤ 2147483647) : pw X d h 63 0 [some (.ref 17), some (pw_i k), some (pw_i b)] [] (fun h' v => h = h' ∧ ∃ a : Int, v = .inl (some (pw_i a)) ∧ 0 ≤ a ∧ a ≤ 1) := by
  have E : pm_ent 63 = some (3, 3, 6, 1, pmc_63) := rfl
  refine pw_ld E (pc' := 1) (st' := [.ref 17]) rfl (fun _ => rfl) ?_
  refine pw_getR (b := 18) I E (c := 1) (k := 0) (pc' := 4) rfl rfl rfl rfl rfl rfl rfl ?_
  refine pw_ld E (pc' := 5) (st' := [pw_i k, .ref 18]) rfl (fun _ => rfl) ?_
  refine pw_ald2 I E (c := 2) (pc' := 6) rfl rfl rfl (by decide) rfl (by decide) (by omega) (by omega) rfl (fun hf1a hf1b => ?_)
  refine pw_if E (pc' := 23) rfl (by decide) (by omega) (by omega) ?_ ?_
  · intro hc2
    change pw_g h 2 (k.toNat) = (0 : Int) at hc2
    refine pw_ld E (pc' := 24) (st' := [pw_i 0]) rfl (fun _ => rfl) ?_
    refine pw_zret E rfl (by omega) ?_
    exact ⟨rfl, ⟨_, rfl, by omega, by omega⟩⟩
  · intro hc3
    change ¬ (pw_g h 2 (k.toNat) = (0 : Int)) at hc3
    refine pw_ld E (pc' := 10) (st' := [.ref 17]) rfl (fun _ => rfl) ?_
    refine pw_getR (b := 20) I E (c := 1) (k := 2) (pc' := 13) rfl rfl rfl rfl rfl rfl rfl ?_
    refine pw_ld E (pc' := 14) (st' := [pw_i k, .ref 20]) rfl (fun _ => rfl) ?_
    refine pw_ald2 I E (c := 4) (pc' := 15) rfl rfl rfl (by decide) rfl (by decide) (by omega) (by omega) rfl (fun hf4a hf4b => ?_)
    refine pw_ld E (pc' := 16) (st' := [pw_i b, pw_i (pw_g h 4 (k.toNat))]) rfl (fun _ => rfl) ?_
    refine pw_if2 E (pc' := 23) rfl (by decide) (by omega) (by omega) (by omega) (by omega) ?_ ?_
    · intro hc5
      change pw_g h 4 (k.toNat) ≠ b at hc5
      refine pw_ld E (pc' := 24) (st' := [pw_i 0]) rfl (fun _ => rfl) ?_
      refine pw_zret E rfl (by omega) ?_
      exact ⟨rfl, ⟨_, rfl, by omega, by omega⟩⟩
    · intro hc6
      change ¬ (pw_g h 4 (k.toNat) ≠ b) at hc6
      refine pw_ld E (pc' := 20) (st' := [pw_i 1]) rfl (fun _ => rfl) ?_
      refine pw_goto E (pc' := 24) rfl (by decide) ?_
      refine pw_zret E rfl (by omega) ?_
      exact ⟨rfl, ⟨_, rfl, by omega, by omega⟩⟩
set_option maxHeartbeats 4000000 in
theorem cm_62 {X : List (Nat × List Value)} {d : Nat} {h : pm_H} (hd : 2 ≤ d) (I : pw_I h) (b : Int) (hb1 : (-2147483648) ≤ b) (hb2 : b ≤ 2147483647) : pw X d h 62 0 [some (.ref 17), some (pw_i b), none, none] [] (fun h' v => h = h' ∧ ∃ a : Int, v = .inl (some (pw_i a)) ∧ 0 ≤ a ∧ a ≤ 24) := by
  have E : pm_ent 62 = some (2, 4, 6, 0, pmc_62) := rfl
  refine pw_ld E (pc' := 1) (st' := [pw_i 0]) rfl (fun _ => rfl) ?_
  refine pw_istn E (pc' := 2) (ls' := [some (.ref 17), some (pw_i b), some (pw_i 0), none]) rfl rfl rfl rfl ?_
  refine pw_ld E (pc' := 3) (st' := [pw_i 0]) rfl (fun _ => rfl) ?_
  refine pw_istn E (pc' := 4) (ls' := [some (.ref 17), some (pw_i b), some (pw_i 0), some (pw_i 0)]) rfl rfl rfl rfl ?_
  have L4 : ∀ (n4 : Nat) (k4_2 : Int) (k4_3 : Int), 0 ≤ k4_2 → k4_2 ≤ 24 → 0 ≤ k4_3 → k4_3 ≤ 24 → k4_2 ≤ k4_3 → (24 - k4_3).toNat = n4 → pw X d h 62 4 [some (.ref 17), some (pw_i b), some (pw_i k4_2), some (pw_i k4_3)] [] (fun h' v => h = h' ∧ ∃ a : Int, v = .inl (some (pw_i a)) ∧ 0 ≤ a ∧ a ≤ 24) := by
    intro n4
    induction n4 using Nat.strongRecOn with
    | ind n4 ih4 =>
      intro k4_2 k4_3 k4_2a k4_2b k4_3a k4_3b hx4_0 hm4
      refine pw_ld E (pc' := 5) (st' := [pw_i k4_3]) rfl (fun _ => rfl) ?_
      refine pw_bip E (pc' := 7) rfl rfl (by decide) ?_
      refine pw_if2 E (pc' := 33) rfl (by decide) (by omega) (by omega) (by decide) (by decide) ?_ ?_
      · intro hc1
        change (24 : Int) ≤ k4_3 at hc1
        refine pw_ld E (pc' := 34) (st' := [pw_i k4_2]) rfl (fun _ => rfl) ?_
        refine pw_iret E rfl ?_
        exact ⟨rfl, ⟨_, rfl, by omega, by omega⟩⟩
      · intro hc2
        change ¬ ((24 : Int) ≤ k4_3) at hc2
        refine pw_ld E (pc' := 11) (st' := [pw_i k4_2]) rfl (fun _ => rfl) ?_
        refine pw_ld E (pc' := 12) (st' := [.ref 17, pw_i k4_2]) rfl (fun _ => rfl) ?_
        refine pw_ld E (pc' := 13) (st' := [pw_i k4_3, .ref 17, pw_i k4_2]) rfl (fun _ => rfl) ?_
        refine pw_ld E (pc' := 14) (st' := [pw_i b, pw_i k4_3, .ref 17, pw_i k4_2]) rfl (fun _ => rfl) ?_
        obtain ⟨f3l, f3h, -⟩ := pw_obj (c := 1) I rfl
        refine pw_call (m' := 63) (As := [.ref 17, pw_i k4_3, pw_i b]) (rest := [pw_i k4_2]) (ls'' := [some (.ref 17), some (pw_i k4_3), some (pw_i b)]) (Nat.le_trans (by decide) hd) E rfl (fun _ => pw_iV rfl rfl rfl rfl (pw_cellI f3h rfl)) (rfl : pm_ent 63 = some (3, 3, 6, 1, pmc_63)) rfl rfl (cm_63 (pw_dp hd (by decide)) I (k4_3) (by omega) (by omega) (b) (by omega) (by omega)) ?_
        rintro u5 v4 ⟨rfl, x6, rfl, hx6a, hx6b⟩
        refine ⟨_, rfl, ?_⟩
        show pw X d h 62 17 [some (.ref 17), some (pw_i b), some (pw_i k4_2), some (pw_i k4_3)] [pw_i x6, pw_i k4_2] _
        refine pw_if E (pc' := 24) rfl (by decide) (by omega) (by omega) ?_ ?_
        · intro hc7
          change x6 = (0 : Int) at hc7
          refine pw_ld E (pc' := 25) (st' := [pw_i 0, pw_i k4_2]) rfl (fun _ => rfl) ?_
          refine pw_add E (pc' := 26) rfl rfl ?_
          refine pw_istn E (pc' := 27) (ls' := [some (.ref 17), some (pw_i b), some (pw_i (k4_2 + 0)), some (pw_i k4_3)]) rfl rfl rfl rfl ?_
          refine pw_inc E (pc' := 30) (ls' := [some (.ref 17), some (pw_i b), some (pw_i (k4_2 + 0)), some (pw_i (k4_3 + 1))]) rfl rfl rfl rfl ?_
          refine pw_goto E (pc' := 4) rfl (by decide) ?_
          exact ih4 _ (by omega) (k4_2 + 0) (k4_3 + 1)  (by omega) (by omega) (by omega) (by omega) (by omega) rfl
        · intro hc8
          change ¬ (x6 = (0 : Int)) at hc8
          refine pw_ld E (pc' := 21) (st' := [pw_i 1, pw_i k4_2]) rfl (fun _ => rfl) ?_
          refine pw_goto E (pc' := 25) rfl (by decide) ?_
          refine pw_add E (pc' := 26) rfl rfl ?_
          refine pw_istn E (pc' := 27) (ls' := [some (.ref 17), some (pw_i b), some (pw_i (k4_2 + 1)), some (pw_i k4_3)]) rfl rfl rfl rfl ?_
          refine pw_inc E (pc' := 30) (ls' := [some (.ref 17), some (pw_i b), some (pw_i (k4_2 + 1)), some (pw_i (k4_3 + 1))]) rfl rfl rfl rfl ?_
          refine pw_goto E (pc' := 4) rfl (by decide) ?_
          exact ih4 _ (by omega) (k4_2 + 1) (k4_3 + 1)  (by omega) (by omega) (by omega) (by omega) (by omega) rfl
  exact L4 _ (0) (0)  (by omega) (by omega) (by omega) (by omega) (by omega) rfl
set_option maxHeartbeats 4000000 in
theorem cm_66 {X : List (Nat × List Value)} {d : Nat} {h : pm_H} (hd : 1 ≤ d) (I : pw_I h)  : pw X d h 66 0 [some (.ref 17), none, none] [] (fun h' v => h = h' ∧ ∃ a : Int, v = .inl (some (pw_i a)) ∧ 0 ≤ a ∧ a ≤ 24) := by
  have E : pm_ent 66 = some (1, 3, 6, 0, pmc_66) := rfl
  refine pw_ld E (pc' := 1) (st' := [pw_i 0]) rfl (fun _ => rfl) ?_
  refine pw_istn E (pc' := 2) (ls' := [some (.ref 17), some (pw_i 0), none]) rfl rfl rfl rfl ?_
  refine pw_ld E (pc' := 3) (st' := [pw_i 0]) rfl (fun _ => rfl) ?_
  refine pw_istn E (pc' := 4) (ls' := [some (.ref 17), some (pw_i 0), some (pw_i 0)]) rfl rfl rfl rfl ?_
  have L4 : ∀ (n4 : Nat) (k4_1 : Int) (k4_2 : Int), 0 ≤ k4_1 → k4_1 ≤ 24 → 0 ≤ k4_2 → k4_2 ≤ 24 → k4_1 ≤ k4_2 → (24 - k4_2).toNat = n4 → pw X d h 66 4 [some (.ref 17), some (pw_i k4_1), some (pw_i k4_2)] [] (fun h' v => h = h' ∧ ∃ a : Int, v = .inl (some (pw_i a)) ∧ 0 ≤ a ∧ a ≤ 24) := by
    intro n4
    induction n4 using Nat.strongRecOn with
    | ind n4 ih4 =>
      intro k4_1 k4_2 k4_1a k4_1b k4_2a k4_2b hx4_0 hm4
      refine pw_ld E (pc' := 5) (st' := [pw_i k4_2]) rfl (fun _ => rfl) ?_
      refine pw_bip E (pc' := 7) rfl rfl (by decide) ?_
      refine pw_if2 E (pc' := 42) rfl (by decide) (by omega) (by omega) (by decide) (by decide) ?_ ?_
      · intro hc1
        change (24 : Int) ≤ k4_2 at hc1
        refine pw_ld E (pc' := 43) (st' := [pw_i k4_1]) rfl (fun _ => rfl) ?_
        refine pw_iret E rfl ?_
        exact ⟨rfl, ⟨_, rfl, by omega, by omega⟩⟩
      · intro hc2
        change ¬ ((24 : Int) ≤ k4_2) at hc2
        refine pw_ld E (pc' := 11) (st' := [pw_i k4_1]) rfl (fun _ => rfl) ?_
        refine pw_ld E (pc' := 12) (st' := [.ref 17, pw_i k4_1]) rfl (fun _ => rfl) ?_
        refine pw_getR (b := 18) I E (c := 1) (k := 0) (pc' := 15) rfl rfl rfl rfl rfl rfl rfl ?_
        refine pw_ld E (pc' := 16) (st' := [pw_i k4_2, .ref 18, pw_i k4_1]) rfl (fun _ => rfl) ?_
        refine pw_ald2 I E (c := 2) (pc' := 17) rfl rfl rfl (by decide) rfl (by decide) (by omega) (by omega) rfl (fun hf3a hf3b => ?_)
        refine pw_if E (pc' := 33) rfl (by decide) (by omega) (by omega) ?_ ?_
        · intro hc4
          change pw_g h 2 (k4_2.toNat) = (0 : Int) at hc4
          refine pw_ld E (pc' := 34) (st' := [pw_i 0, pw_i k4_1]) rfl (fun _ => rfl) ?_
          refine pw_add E (pc' := 35) rfl rfl ?_
          refine pw_istn E (pc' := 36) (ls' := [some (.ref 17), some (pw_i (k4_1 + 0)), some (pw_i k4_2)]) rfl rfl rfl rfl ?_
          refine pw_inc E (pc' := 39) (ls' := [some (.ref 17), some (pw_i (k4_1 + 0)), some (pw_i (k4_2 + 1))]) rfl rfl rfl rfl ?_
          refine pw_goto E (pc' := 4) rfl (by decide) ?_
          exact ih4 _ (by omega) (k4_1 + 0) (k4_2 + 1)  (by omega) (by omega) (by omega) (by omega) (by omega) rfl
        · intro hc5
          change ¬ (pw_g h 2 (k4_2.toNat) = (0 : Int)) at hc5
          refine pw_ld E (pc' := 21) (st' := [.ref 17, pw_i k4_1]) rfl (fun _ => rfl) ?_
          refine pw_getR (b := 19) I E (c := 1) (k := 1) (pc' := 24) rfl rfl rfl rfl rfl rfl rfl ?_
          refine pw_ld E (pc' := 25) (st' := [pw_i k4_2, .ref 19, pw_i k4_1]) rfl (fun _ => rfl) ?_
          refine pw_ald2 I E (c := 3) (pc' := 26) rfl rfl rfl (by decide) rfl (by decide) (by omega) (by omega) rfl (fun hf6a hf6b => ?_)
          refine pw_if E (pc' := 33) rfl (by decide) (by omega) (by omega) ?_ ?_
          · intro hc7
            change pw_g h 3 (k4_2.toNat) = (0 : Int) at hc7
            refine pw_ld E (pc' := 34) (st' := [pw_i 0, pw_i k4_1]) rfl (fun _ => rfl) ?_
            refine pw_add E (pc' := 35) rfl rfl ?_
            refine pw_istn E (pc' := 36) (ls' := [some (.ref 17), some (pw_i (k4_1 + 0)), some (pw_i k4_2)]) rfl rfl rfl rfl ?_
            refine pw_inc E (pc' := 39) (ls' := [some (.ref 17), some (pw_i (k4_1 + 0)), some (pw_i (k4_2 + 1))]) rfl rfl rfl rfl ?_
            refine pw_goto E (pc' := 4) rfl (by decide) ?_
            exact ih4 _ (by omega) (k4_1 + 0) (k4_2 + 1)  (by omega) (by omega) (by omega) (by omega) (by omega) rfl
          · intro hc8
            change ¬ (pw_g h 3 (k4_2.toNat) = (0 : Int)) at hc8
            refine pw_ld E (pc' := 30) (st' := [pw_i 1, pw_i k4_1]) rfl (fun _ => rfl) ?_
            refine pw_goto E (pc' := 34) rfl (by decide) ?_
            refine pw_add E (pc' := 35) rfl rfl ?_
            refine pw_istn E (pc' := 36) (ls' := [some (.ref 17), some (pw_i (k4_1 + 1)), some (pw_i k4_2)]) rfl rfl rfl rfl ?_
            refine pw_inc E (pc' := 39) (ls' := [some (.ref 17), some (pw_i (k4_1 + 1)), some (pw_i (k4_2 + 1))]) rfl rfl rfl rfl ?_
            refine pw_goto E (pc' := 4) rfl (by decide) ?_
            exact ih4 _ (by omega) (k4_1 + 1) (k4_2 + 1)  (by omega) (by omega) (by omega) (by omega) (by omega) rfl
  exact L4 _ (0) (0)  (by omega) (by omega) (by omega) (by omega) (by omega) rfl
set_option maxHeartbeats 4000000 in
theorem cm_2 {X : List (Nat × List Value)} {d : Nat} {h : pm_H} (hd : 1 ≤ d) (I : pw_I h) (b : Int) (hb1 : 0 ≤ b) (hb2 : b ≤ 1) (mo : Int) (hmo1 : 0 ≤ mo) (hmo2 : mo ≤ 11) : pw X d h 2 0 [some (.ref 23), some (pw_i b), some (pw_i mo)] [] (fun h' v => h = h' ∧ ∃ a : Int, v = .inl (some (pw_i a)) ∧ 0 ≤ a ∧ a ≤ 999) := by
  have E : pm_ent 2 = some (3, 3, 0, 0, pmc_2) := rfl
  refine pw_ld E (pc' := 1) (st' := [.ref 23]) rfl (fun _ => rfl) ?_
  refine pw_getR (b := 24) I E (c := 7) (k := 0) (pc' := 4) rfl rfl rfl rfl rfl rfl rfl ?_
  refine pw_ld E (pc' := 5) (st' := [pw_i b, .ref 24]) rfl (fun _ => rfl) ?_
  refine pw_bip E (pc' := 7) rfl rfl (by decide) ?_
  refine pw_mul E (pc' := 8) rfl rfl ?_
  refine pw_ld E (pc' := 9) (st' := [pw_i mo, pw_i (b * 12), .ref 24]) rfl (fun _ => rfl) ?_
  refine pw_add E (pc' := 10) rfl rfl ?_
  refine pw_ald2 I E (c := 8) (pc' := 11) rfl rfl rfl (by decide) rfl (by decide) (by omega) (by omega) rfl (fun hf1a hf1b => ?_)
  refine pw_iret E rfl ?_
  exact ⟨rfl, ⟨_, rfl, by omega, by omega⟩⟩
set_option maxHeartbeats 4000000 in
theorem cm_3 {X : List (Nat × List Value)} {d : Nat} {h : pm_H} (hd : 1 ≤ d) (I : pw_I h) (b : Int) (hb1 : 0 ≤ b) (hb2 : b ≤ 1) (mo : Int) (hmo1 : 0 ≤ mo) (hmo2 : mo ≤ 11) : pw X d h 3 0 [some (.ref 23), some (pw_i b), some (pw_i mo)] [] (fun h' v => h = h' ∧ ∃ a : Int, v = .inl (some (pw_i a)) ∧ (-99) ≤ a ∧ a ≤ 99) := by
  have E : pm_ent 3 = some (3, 3, 0, 0, pmc_3) := rfl
  refine pw_ld E (pc' := 1) (st' := [.ref 23]) rfl (fun _ => rfl) ?_
  refine pw_getR (b := 25) I E (c := 7) (k := 1) (pc' := 4) rfl rfl rfl rfl rfl rfl rfl ?_
  refine pw_ld E (pc' := 5) (st' := [pw_i b, .ref 25]) rfl (fun _ => rfl) ?_
  refine pw_bip E (pc' := 7) rfl rfl (by decide) ?_
  refine pw_mul E (pc' := 8) rfl rfl ?_
  refine pw_ld E (pc' := 9) (st' := [pw_i mo, pw_i (b * 12), .ref 25]) rfl (fun _ => rfl) ?_
  refine pw_add E (pc' := 10) rfl rfl ?_
  refine pw_ald2 I E (c := 9) (pc' := 11) rfl rfl rfl (by decide) rfl (by decide) (by omega) (by omega) rfl (fun hf1a hf1b => ?_)
  refine pw_iret E rfl ?_
  exact ⟨rfl, ⟨_, rfl, by omega, by omega⟩⟩
set_option maxHeartbeats 4000000 in
theorem cm_4 {X : List (Nat × List Value)} {d : Nat} {h : pm_H} (hd : 2 ≤ d) (I : pw_I h) (b : Int) (hb1 : 0 ≤ b) (hb2 : b ≤ 1) (mo : Int) (hmo1 : 0 ≤ mo) (hmo2 : mo ≤ 11) : pw X d h 4 0 [some (.ref 23), some (pw_i b), some (pw_i mo)] [] (fun h' v => h = h' ∧ ∃ a : Int, v = .inl (some (pw_i a)) ∧ (-999) ≤ a ∧ a ≤ 999) := by
  have E : pm_ent 4 = some (3, 3, 0, 0, pmc_4) := rfl
  refine pw_ld E (pc' := 1) (st' := [pw_i mo]) rfl (fun _ => rfl) ?_
  refine pw_ld E (pc' := 2) (st' := [pw_i 1, pw_i mo]) rfl (fun _ => rfl) ?_
  refine pw_if2 E (pc' := 9) rfl (by decide) (by omega) (by omega) (by decide) (by decide) ?_ ?_
  · intro hc1
    change (1 : Int) ≤ mo at hc1
    refine pw_ld E (pc' := 10) (st' := [.ref 23]) rfl (fun _ => rfl) ?_
    refine pw_ld E (pc' := 11) (st' := [pw_i b, .ref 23]) rfl (fun _ => rfl) ?_
    refine pw_ld E (pc' := 12) (st' := [pw_i mo, pw_i b, .ref 23]) rfl (fun _ => rfl) ?_
    obtain ⟨f2l, f2h, -⟩ := pw_obj (c := 7) I rfl
    refine pw_call (m' := 2) (As := [.ref 23, pw_i b, pw_i mo]) (rest := []) (ls'' := [some (.ref 23), some (pw_i b), some (pw_i mo)]) (Nat.le_trans (by decide) hd) E rfl (fun _ => pw_iV rfl rfl rfl rfl (pw_cellI f2h rfl)) (rfl : pm_ent 2 = some (3, 3, 0, 0, pmc_2)) rfl rfl (cm_2 (pw_dp hd (by decide)) I (b) (by omega) (by omega) (mo) (by omega) (by omega)) ?_
    rintro u4 v3 ⟨rfl, x5, rfl, hx5a, hx5b⟩
    refine ⟨_, rfl, ?_⟩
    show pw X d h 4 15 [some (.ref 23), some (pw_i b), some (pw_i mo)] [pw_i x5] _
    refine pw_ld E (pc' := 16) (st' := [.ref 23, pw_i x5]) rfl (fun _ => rfl) ?_
    refine pw_ld E (pc' := 17) (st' := [pw_i b, .ref 23, pw_i x5]) rfl (fun _ => rfl) ?_
    refine pw_ld E (pc' := 18) (st' := [pw_i mo, pw_i b, .ref 23, pw_i x5]) rfl (fun _ => rfl) ?_
    refine pw_ld E (pc' := 19) (st' := [pw_i 1, pw_i mo, pw_i b, .ref 23, pw_i x5]) rfl (fun _ => rfl) ?_
    refine pw_sub E (pc' := 20) rfl rfl ?_
    obtain ⟨f6l, f6h, -⟩ := pw_obj (c := 7) I rfl
    refine pw_call (m' := 2) (As := [.ref 23, pw_i b, pw_i (mo - 1)]) (rest := [pw_i x5]) (ls'' := [some (.ref 23), some (pw_i b), some (pw_i (mo - 1))]) (Nat.le_trans (by decide) hd) E rfl (fun _ => pw_iV rfl rfl rfl rfl (pw_cellI f6h rfl)) (rfl : pm_ent 2 = some (3, 3, 0, 0, pmc_2)) rfl rfl (cm_2 (pw_dp hd (by decide)) I (b) (by omega) (by omega) (mo - 1) (by omega) (by omega)) ?_
    rintro u8 v7 ⟨rfl, x9, rfl, hx9a, hx9b⟩
    refine ⟨_, rfl, ?_⟩
    show pw X d h 4 23 [some (.ref 23), some (pw_i b), some (pw_i mo)] [pw_i x9, pw_i x5] _
    refine pw_sub E (pc' := 24) rfl rfl ?_
    refine pw_iret E rfl ?_
    exact ⟨rfl, ⟨_, rfl, by omega, by omega⟩⟩
  · intro hc10
    change ¬ ((1 : Int) ≤ mo) at hc10
    refine pw_ld E (pc' := 6) (st' := [pw_i 0]) rfl (fun _ => rfl) ?_
    refine pw_goto E (pc' := 24) rfl (by decide) ?_
    refine pw_iret E rfl ?_
    exact ⟨rfl, ⟨_, rfl, by omega, by omega⟩⟩
end
section
/-! contracts (printed by wip/tool/pwspec.py) -/
set_option maxHeartbeats 4000000 in
theorem cm_25 {X : List (Nat × List Value)} {d : Nat} {h : pm_H} (hd : 1 ≤ d) (I : pw_I h) (c : Nat) (hc : pw_Lg c) (c0 : Nat) (hc0 : pw_Lg c0) : pw X d h 25 0 [some (.ref (16 + c)), some (.ref (16 + c0))] [] (fun h' v => pw_I h' ∧ pw_E [c + 1] h h' ∧ v = .inl none) := by
  have E : pm_ent 25 = some (2, 2, 2, 4, pmc_25) := rfl
  have E0 : pw_E [c + 1] h h := pw_E.rf _ _
  refine pw_ld E (pc' := 1) (st' := [.ref (16 + c0)]) rfl (fun _ => rfl) ?_
  refine pw_getR (b := 16 + (c0 + 1)) I E (c := c0) (k := 0) (pc' := 4) rfl rfl (pw_Lg_o hc0) rfl rfl rfl rfl ?_
  refine pw_ld E (pc' := 5) (st' := [pw_i 0, .ref (16 + (c0 + 1))]) rfl (fun _ => rfl) ?_
  refine pw_ld E (pc' := 6) (st' := [.ref (16 + c), pw_i 0, .ref (16 + (c0 + 1))]) rfl (fun _ => rfl) ?_
  refine pw_getR (b := 16 + (c + 1)) I E (c := c) (k := 0) (pc' := 9) rfl rfl (pw_Lg_o hc) rfl rfl rfl rfl ?_
  refine pw_ld E (pc' := 10) (st' := [pw_i 0, .ref (16 + (c + 1)), pw_i 0, .ref (16 + (c0 + 1))]) rfl (fun _ => rfl) ?_
  refine pw_ld E (pc' := 11) (st' := [.ref (16 + c), pw_i 0, .ref (16 + (c + 1)), pw_i 0, .ref (16 + (c0 + 1))]) rfl (fun _ => rfl) ?_
  refine pw_getR (b := 16 + (c + 1)) I E (c := c) (k := 0) (pc' := 14) rfl rfl (pw_Lg_o hc) rfl rfl rfl rfl ?_
  obtain ⟨z1l, z1h, z1n, -⟩ := pw_arr (c := c + 1) I (pw_Lg_1 hc)
  refine pw_alen E (pc' := 15) rfl (pw_rowI z1h rfl) rfl rfl ?_
  rw [z1n]
  refine pw_copy I E (c := c0 + 1) (c2 := c + 1) rfl rfl (pw_Lg_1 hc0) (pw_Lg_1 hc) (by decide) rfl rfl rfl ?_
  intro h2 h2I h2E h2Q
  have h2F := E0.tr (h2E.wk (W' := [c + 1]) (by first | rfl | simp))
  refine pw_vret E rfl ?_
  exact ⟨h2I, h2F, rfl⟩
set_option maxHeartbeats 4000000 in
theorem cm_18 {X : List (Nat × List Value)} {d : Nat} {h : pm_H} (hd : 1 ≤ d) (I : pw_I h) (c : Nat) (hc : pw_Lg c) (k : Int) (hk1 : 0 ≤ k) (hk2 : k ≤ 23) (mo : Int) (hmo1 : 0 ≤ mo) (hmo2 : mo ≤ 11) (wh : Int) (hwh1 : 0 ≤ wh) (hwh2 : wh ≤ 99) (hf : Int) (hhf1 : 0 ≤ hf) (hhf2 : hf ≤ 99) : pw X d h 18 0 [some (.ref (16 + c)), some (pw_i k), some (pw_i mo), some (pw_i wh), some (pw_i hf)] [] (fun h' v => pw_I h' ∧ pw_E [c + 1] h h' ∧ v = .inl none) := by
  have E : pm_ent 18 = some (5, 5, 2, 4, pmc_18) := rfl
  have E0 : pw_E [c + 1] h h := pw_E.rf _ _
  refine pw_ld E (pc' := 1) (st' := [.ref (16 + c)]) rfl (fun _ => rfl) ?_
  refine pw_getR (b := 16 + (c + 1)) I E (c := c) (k := 0) (pc' := 4) rfl rfl (pw_Lg_o hc) rfl rfl rfl rfl ?_
  refine pw_ld E (pc' := 5) (st' := [pw_i k, .ref (16 + (c + 1))]) rfl (fun _ => rfl) ?_
  refine pw_bip E (pc' := 7) rfl rfl (by decide) ?_
  refine pw_mul E (pc' := 8) rfl rfl ?_
  refine pw_ld E (pc' := 9) (st' := [pw_i mo, pw_i (k * 12), .ref (16 + (c + 1))]) rfl (fun _ => rfl) ?_
  refine pw_add E (pc' := 10) rfl rfl ?_
  refine pw_ld E (pc' := 11) (st' := [pw_i wh, pw_i ((k * 12) + mo), .ref (16 + (c + 1))]) rfl (fun _ => rfl) ?_
  refine pw_bip E (pc' := 13) rfl rfl (by decide) ?_
  refine pw_mul E (pc' := 14) rfl rfl ?_
  refine pw_ld E (pc' := 16) (st' := [pw_i hf, pw_i (wh * 100), pw_i ((k * 12) + mo), .ref (16 + (c + 1))]) rfl (fun _ => rfl) ?_
  refine pw_add E (pc' := 17) rfl rfl ?_
  refine pw_ast0 I E (c := c + 1) (pc' := 18) rfl rfl (pw_Lg_1 hc) (by decide) rfl (by decide) (by omega) (by omega) rfl (by omega) (by omega) (by omega) (by omega) rfl ?_
  intro h1I h1E
  generalize h1w : pw_w h (c + 1) (((k * 12) + mo).toNat) (pw_i ((wh * 100) + hf)) = h1 at h1I h1E ⊢
  have h1F := E0.tr (h1E.wk (W' := [c + 1]) (by first | rfl | simp))
  refine pw_vret E rfl ?_
  exact ⟨h1I, h1F, rfl⟩
set_option maxHeartbeats 4000000 in
theorem cm_16 {X : List (Nat × List Value)} {d : Nat} {h : pm_H} (hd : 1 ≤ d) (I : pw_I h) (c : Nat) (hc : pw_Lg c) (k : Int) (hk1 : 0 ≤ k) (hk2 : k ≤ 23) (mo : Int) (hmo1 : 0 ≤ mo) (hmo2 : mo ≤ 11) : pw X d h 16 0 [some (.ref (16 + c)), some (pw_i k), some (pw_i mo)] [] (fun h' v => pw_I h' ∧ pw_E [c + 1] h h' ∧ v = .inl none) := by
  have E : pm_ent 16 = some (3, 3, 2, 4, pmc_16) := rfl
  have E0 : pw_E [c + 1] h h := pw_E.rf _ _
  refine pw_ld E (pc' := 1) (st' := [.ref (16 + c)]) rfl (fun _ => rfl) ?_
  refine pw_getR (b := 16 + (c + 1)) I E (c := c) (k := 0) (pc' := 4) rfl rfl (pw_Lg_o hc) rfl rfl rfl rfl ?_
  refine pw_ld E (pc' := 5) (st' := [pw_i k, .ref (16 + (c + 1))]) rfl (fun _ => rfl) ?_
  refine pw_bip E (pc' := 7) rfl rfl (by decide) ?_
  refine pw_mul E (pc' := 8) rfl rfl ?_
  refine pw_ld E (pc' := 9) (st' := [pw_i mo, pw_i (k * 12), .ref (16 + (c + 1))]) rfl (fun _ => rfl) ?_
  refine pw_add E (pc' := 10) rfl rfl ?_
  refine pw_ld E (pc' := 11) (st' := [pw_i ((-1)), pw_i ((k * 12) + mo), .ref (16 + (c + 1))]) rfl (fun _ => rfl) ?_
  refine pw_ast0 I E (c := c + 1) (pc' := 12) rfl rfl (pw_Lg_1 hc) (by decide) rfl (by decide) (by omega) (by omega) rfl (by omega) (by omega) (by omega) (by omega) rfl ?_
  intro h1I h1E
  generalize h1w : pw_w h (c + 1) (((k * 12) + mo).toNat) (pw_i ((-1))) = h1 at h1I h1E ⊢
  have h1F := E0.tr (h1E.wk (W' := [c + 1]) (by first | rfl | simp))
  refine pw_vret E rfl ?_
  exact ⟨h1I, h1F, rfl⟩
set_option maxHeartbeats 4000000 in
theorem cm_19 {X : List (Nat × List Value)} {d : Nat} {h : pm_H} (hd : 1 ≤ d) (I : pw_I h) (c : Nat) (hc : pw_Lg c) (k : Int) (hk1 : 0 ≤ k) (hk2 : k ≤ 23) (mo : Int) (hmo1 : 0 ≤ mo) (hmo2 : mo ≤ 11) : pw X d h 19 0 [some (.ref (16 + c)), some (pw_i k), some (pw_i mo)] [] (fun h' v => h = h' ∧ ∃ a : Int, v = .inl (some (pw_i a)) ∧ 0 ≤ a ∧ a ≤ 1) := by
  have E : pm_ent 19 = some (3, 3, 2, 1, pmc_19) := rfl
  refine pw_ld E (pc' := 1) (st' := [.ref (16 + c)]) rfl (fun _ => rfl) ?_
  refine pw_getR (b := 16 + (c + 1)) I E (c := c) (k := 0) (pc' := 4) rfl rfl (pw_Lg_o hc) rfl rfl rfl rfl ?_
  refine pw_ld E (pc' := 5) (st' := [pw_i k, .ref (16 + (c + 1))]) rfl (fun _ => rfl) ?_
  refine pw_bip E (pc' := 7) rfl rfl (by decide) ?_
  refine pw_mul E (pc' := 8) rfl rfl ?_
  refine pw_ld E (pc' := 9) (st' := [pw_i mo, pw_i (k * 12), .ref (16 + (c + 1))]) rfl (fun _ => rfl) ?_
  refine pw_add E (pc' := 10) rfl rfl ?_
  refine pw_ald2 I E (c := c + 1) (pc' := 11) rfl rfl (pw_Lg_1 hc) (by decide) rfl (by decide) (by omega) (by omega) rfl (fun hf1a hf1b => ?_)
  refine pw_bip E (pc' := 13) rfl rfl (by decide) ?_
  refine pw_if2 E (pc' := 20) rfl (by decide) (by omega) (by omega) (by decide) (by decide) ?_ ?_
  · intro hc2
    change pw_g h (c + 1) (((k * 12) + mo).toNat) ≠ ((-2) : Int) at hc2
    refine pw_ld E (pc' := 21) (st' := [pw_i 0]) rfl (fun _ => rfl) ?_
    refine pw_zret E rfl (by omega) ?_
    exact ⟨rfl, ⟨_, rfl, by omega, by omega⟩⟩
  · intro hc3
    change ¬ (pw_g h (c + 1) (((k * 12) + mo).toNat) ≠ ((-2) : Int)) at hc3
    refine pw_ld E (pc' := 17) (st' := [pw_i 1]) rfl (fun _ => rfl) ?_
    refine pw_goto E (pc' := 21) rfl (by decide) ?_
    refine pw_zret E rfl (by omega) ?_
    exact ⟨rfl, ⟨_, rfl, by omega, by omega⟩⟩
set_option maxHeartbeats 4000000 in
theorem cm_26 {X : List (Nat × List Value)} {d : Nat} {h : pm_H} (hd : 1 ≤ d) (I : pw_I h) (c : Nat) (hc : pw_Lg c) (k : Int) (hk1 : 0 ≤ k) (hk2 : k ≤ 23) (mo : Int) (hmo1 : 0 ≤ mo) (hmo2 : mo ≤ 11) : pw X d h 26 0 [some (.ref (16 + c)), some (pw_i k), some (pw_i mo)] [] (fun h' v => h = h' ∧ ∃ a : Int, v = .inl (some (pw_i a)) ∧ 0 ≤ a ∧ a ≤ 1) := by
  have E : pm_ent 26 = some (3, 3, 2, 1, pmc_26) := rfl
  refine pw_ld E (pc' := 1) (st' := [.ref (16 + c)]) rfl (fun _ => rfl) ?_
  refine pw_getR (b := 16 + (c + 1)) I E (c := c) (k := 0) (pc' := 4) rfl rfl (pw_Lg_o hc) rfl rfl rfl rfl ?_
  refine pw_ld E (pc' := 5) (st' := [pw_i k, .ref (16 + (c + 1))]) rfl (fun _ => rfl) ?_
  refine pw_bip E (pc' := 7) rfl rfl (by decide) ?_
  refine pw_mul E (pc' := 8) rfl rfl ?_
  refine pw_ld E (pc' := 9) (st' := [pw_i mo, pw_i (k * 12), .ref (16 + (c + 1))]) rfl (fun _ => rfl) ?_
  refine pw_add E (pc' := 10) rfl rfl ?_
  refine pw_ald2 I E (c := c + 1) (pc' := 11) rfl rfl (pw_Lg_1 hc) (by decide) rfl (by decide) (by omega) (by omega) rfl (fun hf1a hf1b => ?_)
  refine pw_ld E (pc' := 12) (st' := [pw_i ((-1)), pw_i (pw_g h (c + 1) (((k * 12) + mo).toNat))]) rfl (fun _ => rfl) ?_
  refine pw_if2 E (pc' := 19) rfl (by decide) (by omega) (by omega) (by decide) (by decide) ?_ ?_
  · intro hc2
    change pw_g h (c + 1) (((k * 12) + mo).toNat) ≠ ((-1) : Int) at hc2
    refine pw_ld E (pc' := 20) (st' := [pw_i 0]) rfl (fun _ => rfl) ?_
    refine pw_zret E rfl (by omega) ?_
    exact ⟨rfl, ⟨_, rfl, by omega, by omega⟩⟩
  · intro hc3
    change ¬ (pw_g h (c + 1) (((k * 12) + mo).toNat) ≠ ((-1) : Int)) at hc3
    refine pw_ld E (pc' := 16) (st' := [pw_i 1]) rfl (fun _ => rfl) ?_
    refine pw_goto E (pc' := 20) rfl (by decide) ?_
    refine pw_zret E rfl (by omega) ?_
    exact ⟨rfl, ⟨_, rfl, by omega, by omega⟩⟩
set_option maxHeartbeats 4000000 in
theorem cm_23 {X : List (Nat × List Value)} {d : Nat} {h : pm_H} (hd : 2 ≤ d) (I : pw_I h) (c : Nat) (hc : pw_Lg c) (k : Int) (hk1 : 0 ≤ k) (hk2 : k ≤ 23) (b : Int) (hb1 : 0 ≤ b) (hb2 : b ≤ 11) (e : Int) (he1 : 0 ≤ e) (he2 : e ≤ 11) : pw X d h 23 0 [some (.ref (16 + c)), some (pw_i k), some (pw_i b), some (pw_i e)] [] (fun h' v => h = h' ∧ ∃ a : Int, v = .inl (some (pw_i a)) ∧ 0 ≤ a ∧ a ≤ 1) := by
  have E : pm_ent 23 = some (4, 4, 2, 1, pmc_23) := rfl
  refine pw_ld E (pc' := 1) (st' := [.ref (16 + c)]) rfl (fun _ => rfl) ?_
  refine pw_ld E (pc' := 2) (st' := [pw_i k, .ref (16 + c)]) rfl (fun _ => rfl) ?_
  refine pw_ld E (pc' := 3) (st' := [pw_i b, pw_i k, .ref (16 + c)]) rfl (fun _ => rfl) ?_
  obtain ⟨f1l, f1h, -⟩ := pw_obj (c := c) I (pw_Lg_o hc)
  refine pw_call (m' := 19) (As := [.ref (16 + c), pw_i k, pw_i b]) (rest := []) (ls'' := [some (.ref (16 + c)), some (pw_i k), some (pw_i b)]) (Nat.le_trans (by decide) hd) E rfl (fun _ => pw_iV rfl rfl rfl rfl (pw_cellI f1h rfl)) (rfl : pm_ent 19 = some (3, 3, 2, 1, pmc_19)) rfl rfl (cm_19 (pw_dp hd (by decide)) I c hc (k) (by omega) (by omega) (b) (by omega) (by omega)) ?_
  rintro u3 v2 ⟨rfl, x4, rfl, hx4a, hx4b⟩
  refine ⟨_, rfl, ?_⟩
  show pw X d h 23 6 [some (.ref (16 + c)), some (pw_i k), some (pw_i b), some (pw_i e)] [pw_i x4] _
  refine pw_if E (pc' := 22) rfl (by decide) (by omega) (by omega) ?_ ?_
  · intro hc5
    change x4 ≠ (0 : Int) at hc5
    refine pw_ld E (pc' := 23) (st' := [pw_i 0]) rfl (fun _ => rfl) ?_
    refine pw_zret E rfl (by omega) ?_
    exact ⟨rfl, ⟨_, rfl, by omega, by omega⟩⟩
  · intro hc6
    change ¬ (x4 ≠ (0 : Int)) at hc6
    refine pw_ld E (pc' := 10) (st' := [.ref (16 + c)]) rfl (fun _ => rfl) ?_
    refine pw_ld E (pc' := 11) (st' := [pw_i k, .ref (16 + c)]) rfl (fun _ => rfl) ?_
    refine pw_ld E (pc' := 12) (st' := [pw_i e, pw_i k, .ref (16 + c)]) rfl (fun _ => rfl) ?_
    obtain ⟨f7l, f7h, -⟩ := pw_obj (c := c) I (pw_Lg_o hc)
    refine pw_call (m' := 19) (As := [.ref (16 + c), pw_i k, pw_i e]) (rest := []) (ls'' := [some (.ref (16 + c)), some (pw_i k), some (pw_i e)]) (Nat.le_trans (by decide) hd) E rfl (fun _ => pw_iV rfl rfl rfl rfl (pw_cellI f7h rfl)) (rfl : pm_ent 19 = some (3, 3, 2, 1, pmc_19)) rfl rfl (cm_19 (pw_dp hd (by decide)) I c hc (k) (by omega) (by omega) (e) (by omega) (by omega)) ?_
    rintro u9 v8 ⟨rfl, x10, rfl, hx10a, hx10b⟩
    refine ⟨_, rfl, ?_⟩
    show pw X d h 23 15 [some (.ref (16 + c)), some (pw_i k), some (pw_i b), some (pw_i e)] [pw_i x10] _
    refine pw_if E (pc' := 22) rfl (by decide) (by omega) (by omega) ?_ ?_
    · intro hc11
      change x10 ≠ (0 : Int) at hc11
      refine pw_ld E (pc' := 23) (st' := [pw_i 0]) rfl (fun _ => rfl) ?_
      refine pw_zret E rfl (by omega) ?_
      exact ⟨rfl, ⟨_, rfl, by omega, by omega⟩⟩
    · intro hc12
      change ¬ (x10 ≠ (0 : Int)) at hc12
      refine pw_ld E (pc' := 19) (st' := [pw_i 1]) rfl (fun _ => rfl) ?_
      refine pw_goto E (pc' := 23) rfl (by decide) ?_
      refine pw_zret E rfl (by omega) ?_
      exact ⟨rfl, ⟨_, rfl, by omega, by omega⟩⟩
set_option maxHeartbeats 4000000 in
theorem cm_21 {X : List (Nat × List Value)} {d : Nat} {h : pm_H} (hd : 1 ≤ d) (I : pw_I h) (c : Nat) (hc : pw_Lg c) (k : Int) (hk1 : 0 ≤ k) (hk2 : k ≤ 23) (mo : Int) (hmo1 : 0 ≤ mo) (hmo2 : mo ≤ 11) : pw X d h 21 0 [some (.ref (16 + c)), some (pw_i k), some (pw_i mo)] [] (fun h' v => h = h' ∧ ∃ a : Int, v = .inl (some (pw_i a)) ∧ 0 ≤ a ∧ a ≤ 99) := by
  have E : pm_ent 21 = some (3, 3, 2, 0, pmc_21) := rfl
  refine pw_ld E (pc' := 1) (st' := [pw_i 0]) rfl (fun _ => rfl) ?_
  refine pw_ld E (pc' := 2) (st' := [.ref (16 + c), pw_i 0]) rfl (fun _ => rfl) ?_
  refine pw_getR (b := 16 + (c + 1)) I E (c := c) (k := 0) (pc' := 5) rfl rfl (pw_Lg_o hc) rfl rfl rfl rfl ?_
  refine pw_ld E (pc' := 6) (st' := [pw_i k, .ref (16 + (c + 1)), pw_i 0]) rfl (fun _ => rfl) ?_
  refine pw_bip E (pc' := 8) rfl rfl (by decide) ?_
  refine pw_mul E (pc' := 9) rfl rfl ?_
  refine pw_ld E (pc' := 10) (st' := [pw_i mo, pw_i (k * 12), .ref (16 + (c + 1)), pw_i 0]) rfl (fun _ => rfl) ?_
  refine pw_add E (pc' := 11) rfl rfl ?_
  refine pw_ald2 I E (c := c + 1) (pc' := 12) rfl rfl (pw_Lg_1 hc) (by decide) rfl (by decide) (by omega) (by omega) rfl (fun hf1a hf1b => ?_)
  refine pw_max E rfl rfl (by decide) (by decide) (by omega) (by omega) rfl ?_
  refine pw_bip E (pc' := 17) rfl rfl (by decide) ?_
  refine pw_div E (pc' := 18) rfl rfl (by omega) (by omega) (by decide) (by decide) ?_
  refine pw_iret E rfl ?_
  exact ⟨rfl, ⟨_, rfl, by omega, by omega⟩⟩
set_option maxHeartbeats 4000000 in
theorem cm_22 {X : List (Nat × List Value)} {d : Nat} {h : pm_H} (hd : 1 ≤ d) (I : pw_I h) (c : Nat) (hc : pw_Lg c) (k : Int) (hk1 : 0 ≤ k) (hk2 : k ≤ 23) (mo : Int) (hmo1 : 0 ≤ mo) (hmo2 : mo ≤ 11) : pw X d h 22 0 [some (.ref (16 + c)), some (pw_i k), some (pw_i mo)] [] (fun h' v => h = h' ∧ ∃ a : Int, v = .inl (some (pw_i a)) ∧ 0 ≤ a ∧ a ≤ 99) := by
  have E : pm_ent 22 = some (3, 3, 2, 0, pmc_22) := rfl
  refine pw_ld E (pc' := 1) (st' := [pw_i 0]) rfl (fun _ => rfl) ?_
  refine pw_ld E (pc' := 2) (st' := [.ref (16 + c), pw_i 0]) rfl (fun _ => rfl) ?_
  refine pw_getR (b := 16 + (c + 1)) I E (c := c) (k := 0) (pc' := 5) rfl rfl (pw_Lg_o hc) rfl rfl rfl rfl ?_
  refine pw_ld E (pc' := 6) (st' := [pw_i k, .ref (16 + (c + 1)), pw_i 0]) rfl (fun _ => rfl) ?_
  refine pw_bip E (pc' := 8) rfl rfl (by decide) ?_
  refine pw_mul E (pc' := 9) rfl rfl ?_
  refine pw_ld E (pc' := 10) (st' := [pw_i mo, pw_i (k * 12), .ref (16 + (c + 1)), pw_i 0]) rfl (fun _ => rfl) ?_
  refine pw_add E (pc' := 11) rfl rfl ?_
  refine pw_ald2 I E (c := c + 1) (pc' := 12) rfl rfl (pw_Lg_1 hc) (by decide) rfl (by decide) (by omega) (by omega) rfl (fun hf1a hf1b => ?_)
  refine pw_max E rfl rfl (by decide) (by decide) (by omega) (by omega) rfl ?_
  refine pw_bip E (pc' := 17) rfl rfl (by decide) ?_
  refine pw_rem E (pc' := 18) rfl rfl (by omega) (by omega) (by decide) (by decide) ?_
  refine pw_iret E rfl ?_
  exact ⟨rfl, ⟨_, rfl, by omega, by omega⟩⟩
set_option maxHeartbeats 4000000 in
theorem cm_20 {X : List (Nat × List Value)} {d : Nat} {h : pm_H} (hd : 2 ≤ d) (I : pw_I h) (c : Nat) (hc : pw_Lg c) (k : Int) (hk1 : 0 ≤ k) (hk2 : k ≤ 23) (mo : Int) (hmo1 : 0 ≤ mo) (hmo2 : mo ≤ 11) (t : Int) (ht1 : (-2147483648) ≤ t) (ht2 : t ≤ 2147483647) : pw X d h 20 0 [some (.ref (16 + c)), some (pw_i k), some (pw_i mo), some (pw_i t)] [] (fun h' v => h = h' ∧ ∃ a : Int, v = .inl (some (pw_i a)) ∧ (-2147483648) ≤ a ∧ a ≤ 2147483647) := by
  have E : pm_ent 20 = some (4, 4, 2, 0, pmc_20) := rfl
  refine pw_ld E (pc' := 1) (st' := [.ref (16 + c)]) rfl (fun _ => rfl) ?_
  refine pw_ld E (pc' := 2) (st' := [pw_i k, .ref (16 + c)]) rfl (fun _ => rfl) ?_
  refine pw_ld E (pc' := 3) (st' := [pw_i mo, pw_i k, .ref (16 + c)]) rfl (fun _ => rfl) ?_
  obtain ⟨f1l, f1h, -⟩ := pw_obj (c := c) I (pw_Lg_o hc)
  refine pw_call (m' := 21) (As := [.ref (16 + c), pw_i k, pw_i mo]) (rest := []) (ls'' := [some (.ref (16 + c)), some (pw_i k), some (pw_i mo)]) (Nat.le_trans (by decide) hd) E rfl (fun _ => pw_iV rfl rfl rfl rfl (pw_cellI f1h rfl)) (rfl : pm_ent 21 = some (3, 3, 2, 0, pmc_21)) rfl rfl (cm_21 (pw_dp hd (by decide)) I c hc (k) (by omega) (by omega) (mo) (by omega) (by omega)) ?_
  rintro u3 v2 ⟨rfl, x4, rfl, hx4a, hx4b⟩
  refine ⟨_, rfl, ?_⟩
  show pw X d h 20 6 [some (.ref (16 + c)), some (pw_i k), some (pw_i mo), some (pw_i t)] [pw_i x4] _
  refine pw_bip E (pc' := 8) rfl rfl (by decide) ?_
  refine pw_mul E (pc' := 9) rfl rfl ?_
  refine pw_ld E (pc' := 10) (st' := [.ref (16 + c), pw_i (x4 * 10)]) rfl (fun _ => rfl) ?_
  refine pw_ld E (pc' := 11) (st' := [pw_i k, .ref (16 + c), pw_i (x4 * 10)]) rfl (fun _ => rfl) ?_
  refine pw_ld E (pc' := 12) (st' := [pw_i mo, pw_i k, .ref (16 + c), pw_i (x4 * 10)]) rfl (fun _ => rfl) ?_
  obtain ⟨f5l, f5h, -⟩ := pw_obj (c := c) I (pw_Lg_o hc)
  refine pw_call (m' := 22) (As := [.ref (16 + c), pw_i k, pw_i mo]) (rest := [pw_i (x4 * 10)]) (ls'' := [some (.ref (16 + c)), some (pw_i k), some (pw_i mo)]) (Nat.le_trans (by decide) hd) E rfl (fun _ => pw_iV rfl rfl rfl rfl (pw_cellI f5h rfl)) (rfl : pm_ent 22 = some (3, 3, 2, 0, pmc_22)) rfl rfl (cm_22 (pw_dp hd (by decide)) I c hc (k) (by omega) (by omega) (mo) (by omega) (by omega)) ?_
  rintro u7 v6 ⟨rfl, x8, rfl, hx8a, hx8b⟩
  refine ⟨_, rfl, ?_⟩
  show pw X d h 20 15 [some (.ref (16 + c)), some (pw_i k), some (pw_i mo), some (pw_i t)] [pw_i x8, pw_i (x4 * 10)] _
  refine pw_ld E (pc' := 16) (st' := [pw_i t, pw_i x8, pw_i (x4 * 10)]) rfl (fun _ => rfl) ?_
  refine pw_mul E (pc' := 17) rfl rfl ?_
  refine pw_nm (fun x9 hx9a hx9b => ?_)
  refine pw_add E (pc' := 18) rfl rfl ?_
  refine pw_nm (fun x10 hx10a hx10b => ?_)
  refine pw_iret E rfl ?_
  exact ⟨rfl, ⟨_, rfl, by omega, by omega⟩⟩
set_option maxHeartbeats 4000000 in
theorem cm_24 {X : List (Nat × List Value)} {d : Nat} {h : pm_H} (hd : 3 ≤ d) (I : pw_I h) (c : Nat) (hc : pw_Lg c) (k : Int) (hk1 : 0 ≤ k) (hk2 : k ≤ 23) (b : Int) (hb1 : 0 ≤ b) (hb2 : b ≤ 11) (e : Int) (he1 : 0 ≤ e) (he2 : e ≤ 11) (t : Int) (ht1 : (-2147483648) ≤ t) (ht2 : t ≤ 2147483647) : pw X d h 24 0 [some (.ref (16 + c)), some (pw_i k), some (pw_i b), some (pw_i e), some (pw_i t)] [] (fun h' v => h = h' ∧ ∃ a : Int, v = .inl (some (pw_i a)) ∧ (-2147483648) ≤ a ∧ a ≤ 2147483647) := by
  have E : pm_ent 24 = some (5, 5, 2, 0, pmc_24) := rfl
  refine pw_ld E (pc' := 1) (st' := [.ref (16 + c)]) rfl (fun _ => rfl) ?_
  refine pw_ld E (pc' := 2) (st' := [pw_i k, .ref (16 + c)]) rfl (fun _ => rfl) ?_
  refine pw_ld E (pc' := 3) (st' := [pw_i e, pw_i k, .ref (16 + c)]) rfl (fun _ => rfl) ?_
  refine pw_ld E (pc' := 5) (st' := [pw_i t, pw_i e, pw_i k, .ref (16 + c)]) rfl (fun _ => rfl) ?_
  obtain ⟨f1l, f1h, -⟩ := pw_obj (c := c) I (pw_Lg_o hc)
  refine pw_call (m' := 20) (As := [.ref (16 + c), pw_i k, pw_i e, pw_i t]) (rest := []) (ls'' := [some (.ref (16 + c)), some (pw_i k), some (pw_i e), some (pw_i t)]) (Nat.le_trans (by decide) hd) E rfl (fun _ => pw_iV rfl rfl rfl rfl (pw_cellI f1h rfl)) (rfl : pm_ent 20 = some (4, 4, 2, 0, pmc_20)) rfl rfl (cm_20 (pw_dp hd (by decide)) I c hc (k) (by omega) (by omega) (e) (by omega) (by omega) (t) (by omega) (by omega)) ?_
  rintro u3 v2 ⟨rfl, x4, rfl, hx4a, hx4b⟩
  refine ⟨_, rfl, ?_⟩
  show pw X d h 24 8 [some (.ref (16 + c)), some (pw_i k), some (pw_i b), some (pw_i e), some (pw_i t)] [pw_i x4] _
  refine pw_ld E (pc' := 9) (st' := [.ref (16 + c), pw_i x4]) rfl (fun _ => rfl) ?_
  refine pw_ld E (pc' := 10) (st' := [pw_i k, .ref (16 + c), pw_i x4]) rfl (fun _ => rfl) ?_
  refine pw_ld E (pc' := 11) (st' := [pw_i b, pw_i k, .ref (16 + c), pw_i x4]) rfl (fun _ => rfl) ?_
  refine pw_ld E (pc' := 13) (st' := [pw_i t, pw_i b, pw_i k, .ref (16 + c), pw_i x4]) rfl (fun _ => rfl) ?_
  obtain ⟨f5l, f5h, -⟩ := pw_obj (c := c) I (pw_Lg_o hc)
  refine pw_call (m' := 20) (As := [.ref (16 + c), pw_i k, pw_i b, pw_i t]) (rest := [pw_i x4]) (ls'' := [some (.ref (16 + c)), some (pw_i k), some (pw_i b), some (pw_i t)]) (Nat.le_trans (by decide) hd) E rfl (fun _ => pw_iV rfl rfl rfl rfl (pw_cellI f5h rfl)) (rfl : pm_ent 20 = some (4, 4, 2, 0, pmc_20)) rfl rfl (cm_20 (pw_dp hd (by decide)) I c hc (k) (by omega) (by omega) (b) (by omega) (by omega) (t) (by omega) (by omega)) ?_
  rintro u7 v6 ⟨rfl, x8, rfl, hx8a, hx8b⟩
  refine ⟨_, rfl, ?_⟩
  show pw X d h 24 16 [some (.ref (16 + c)), some (pw_i k), some (pw_i b), some (pw_i e), some (pw_i t)] [pw_i x8, pw_i x4] _
  refine pw_sub E (pc' := 17) rfl rfl ?_
  refine pw_nm (fun x9 hx9a hx9b => ?_)
  refine pw_iret E rfl ?_
  exact ⟨rfl, ⟨_, rfl, by omega, by omega⟩⟩
set_option maxHeartbeats 4000000 in
theorem cm_27 {X : List (Nat × List Value)} {d : Nat} {h : pm_H} (hd : 2 ≤ d) (I : pw_I h) (c : Nat) (hc : pw_Lg c) (k : Int) (hk1 : 0 ≤ k) (hk2 : k ≤ 23) : pw X d h 27 0 [some (.ref (16 + c)), some (pw_i k), none, none] [] (fun h' v => h = h' ∧ ∃ a : Int, v = .inl (some (pw_i a)) ∧ (-2147483648) ≤ a ∧ a ≤ 2147483647) := by
  have E : pm_ent 27 = some (2, 4, 2, 0, pmc_27) := rfl
  refine pw_ld E (pc' := 1) (st' := [pw_i 0]) rfl (fun _ => rfl) ?_
  refine pw_istn E (pc' := 2) (ls' := [some (.ref (16 + c)), some (pw_i k), some (pw_i 0), none]) rfl rfl rfl rfl ?_
  refine pw_ld E (pc' := 3) (st' := [pw_i 0]) rfl (fun _ => rfl) ?_
  refine pw_istn E (pc' := 4) (ls' := [some (.ref (16 + c)), some (pw_i k), some (pw_i 0), some (pw_i 0)]) rfl rfl rfl rfl ?_
  have L4 : ∀ (n4 : Nat) (k4_2 : Int) (k4_3 : Int), (-2147483648) ≤ k4_2 → k4_2 ≤ 2147483647 → 0 ≤ k4_3 → k4_3 ≤ 12 → (12 - k4_3).toNat = n4 → pw X d h 27 4 [some (.ref (16 + c)), some (pw_i k), some (pw_i k4_2), some (pw_i k4_3)] [] (fun h' v => h = h' ∧ ∃ a : Int, v = .inl (some (pw_i a)) ∧ (-2147483648) ≤ a ∧ a ≤ 2147483647) := by
    intro n4
    induction n4 using Nat.strongRecOn with
    | ind n4 ih4 =>
      intro k4_2 k4_3 k4_2a k4_2b k4_3a k4_3b hm4
      refine pw_ld E (pc' := 5) (st' := [pw_i k4_3]) rfl (fun _ => rfl) ?_
      refine pw_bip E (pc' := 7) rfl rfl (by decide) ?_
      refine pw_if2 E (pc' := 33) rfl (by decide) (by omega) (by omega) (by decide) (by decide) ?_ ?_
      · intro hc1
        change (12 : Int) ≤ k4_3 at hc1
        refine pw_ld E (pc' := 34) (st' := [pw_i k4_2]) rfl (fun _ => rfl) ?_
        refine pw_iret E rfl ?_
        exact ⟨rfl, ⟨_, rfl, by omega, by omega⟩⟩
      · intro hc2
        change ¬ ((12 : Int) ≤ k4_3) at hc2
        refine pw_ld E (pc' := 11) (st' := [pw_i k4_2]) rfl (fun _ => rfl) ?_
        refine pw_ld E (pc' := 12) (st' := [.ref (16 + c), pw_i k4_2]) rfl (fun _ => rfl) ?_
        refine pw_ld E (pc' := 13) (st' := [pw_i k, .ref (16 + c), pw_i k4_2]) rfl (fun _ => rfl) ?_
        refine pw_ld E (pc' := 14) (st' := [pw_i k4_3, pw_i k, .ref (16 + c), pw_i k4_2]) rfl (fun _ => rfl) ?_
        obtain ⟨f3l, f3h, -⟩ := pw_obj (c := c) I (pw_Lg_o hc)
        refine pw_call (m' := 19) (As := [.ref (16 + c), pw_i k, pw_i k4_3]) (rest := [pw_i k4_2]) (ls'' := [some (.ref (16 + c)), some (pw_i k), some (pw_i k4_3)]) (Nat.le_trans (by decide) hd) E rfl (fun _ => pw_iV rfl rfl rfl rfl (pw_cellI f3h rfl)) (rfl : pm_ent 19 = some (3, 3, 2, 1, pmc_19)) rfl rfl (cm_19 (pw_dp hd (by decide)) I c hc (k) (by omega) (by omega) (k4_3) (by omega) (by omega)) ?_
        rintro u5 v4 ⟨rfl, x6, rfl, hx6a, hx6b⟩
        refine ⟨_, rfl, ?_⟩
        show pw X d h 27 17 [some (.ref (16 + c)), some (pw_i k), some (pw_i k4_2), some (pw_i k4_3)] [pw_i x6, pw_i k4_2] _
        refine pw_if E (pc' := 24) rfl (by decide) (by omega) (by omega) ?_ ?_
        · intro hc7
          change x6 = (0 : Int) at hc7
          refine pw_ld E (pc' := 25) (st' := [pw_i 0, pw_i k4_2]) rfl (fun _ => rfl) ?_
          refine pw_add E (pc' := 26) rfl rfl ?_
          refine pw_istn E (pc' := 27) (ls' := [some (.ref (16 + c)), some (pw_i k), some (pw_i (k4_2 + 0)), some (pw_i k4_3)]) rfl rfl rfl rfl ?_
          refine pw_inc E (pc' := 30) (ls' := [some (.ref (16 + c)), some (pw_i k), some (pw_i (k4_2 + 0)), some (pw_i (k4_3 + 1))]) rfl rfl rfl rfl ?_
          refine pw_goto E (pc' := 4) rfl (by decide) ?_
          exact ih4 _ (by omega) (k4_2 + 0) (k4_3 + 1)  (by omega) (by omega) (by omega) (by omega)  rfl
        · intro hc8
          change ¬ (x6 = (0 : Int)) at hc8
          refine pw_ld E (pc' := 21) (st' := [pw_i 1, pw_i k4_2]) rfl (fun _ => rfl) ?_
          refine pw_goto E (pc' := 25) rfl (by decide) ?_
          refine pw_add E (pc' := 26) rfl rfl ?_
          refine pw_nm (fun x9 hx9a hx9b => ?_)
          refine pw_istn E (pc' := 27) (ls' := [some (.ref (16 + c)), some (pw_i k), some (pw_i x9), some (pw_i k4_3)]) rfl rfl rfl rfl ?_
          refine pw_inc E (pc' := 30) (ls' := [some (.ref (16 + c)), some (pw_i k), some (pw_i x9), some (pw_i (k4_3 + 1))]) rfl rfl rfl rfl ?_
          refine pw_goto E (pc' := 4) rfl (by decide) ?_
          exact ih4 _ (by omega) (x9) (k4_3 + 1)  (by omega) (by omega) (by omega) (by omega)  rfl
  exact L4 _ (0) (0)  (by omega) (by omega) (by omega) (by omega)  rfl
set_option maxHeartbeats 4000000 in
theorem cm_28 {X : List (Nat × List Value)} {d : Nat} {h : pm_H} (hd : 2 ≤ d) (I : pw_I h) (c : Nat) (hc : pw_Lg c) (k : Int) (hk1 : 0 ≤ k) (hk2 : k ≤ 23) : pw X d h 28 0 [some (.ref (16 + c)), some (pw_i k), none, none] [] (fun h' v => h = h' ∧ ∃ a : Int, v = .inl (some (pw_i a)) ∧ (-2147483648) ≤ a ∧ a ≤ 2147483647) := by
  have E : pm_ent 28 = some (2, 4, 2, 0, pmc_28) := rfl
  refine pw_ld E (pc' := 1) (st' := [pw_i 0]) rfl (fun _ => rfl) ?_
  refine pw_istn E (pc' := 2) (ls' := [some (.ref (16 + c)), some (pw_i k), some (pw_i 0), none]) rfl rfl rfl rfl ?_
  refine pw_ld E (pc' := 3) (st' := [pw_i 0]) rfl (fun _ => rfl) ?_
  refine pw_istn E (pc' := 4) (ls' := [some (.ref (16 + c)), some (pw_i k), some (pw_i 0), some (pw_i 0)]) rfl rfl rfl rfl ?_
  have L4 : ∀ (n4 : Nat) (k4_2 : Int) (k4_3 : Int), (-2147483648) ≤ k4_2 → k4_2 ≤ 2147483647 → 0 ≤ k4_3 → k4_3 ≤ 12 → (12 - k4_3).toNat = n4 → pw X d h 28 4 [some (.ref (16 + c)), some (pw_i k), some (pw_i k4_2), some (pw_i k4_3)] [] (fun h' v => h = h' ∧ ∃ a : Int, v = .inl (some (pw_i a)) ∧ (-2147483648) ≤ a ∧ a ≤ 2147483647) := by
    intro n4
    induction n4 using Nat.strongRecOn with
    | ind n4 ih4 =>
      intro k4_2 k4_3 k4_2a k4_2b k4_3a k4_3b hm4
      refine pw_ld E (pc' := 5) (st' := [pw_i k4_3]) rfl (fun _ => rfl) ?_
      refine pw_bip E (pc' := 7) rfl rfl (by decide) ?_
      refine pw_if2 E (pc' := 33) rfl (by decide) (by omega) (by omega) (by decide) (by decide) ?_ ?_
      · intro hc1
        change (12 : Int) ≤ k4_3 at hc1
        refine pw_ld E (pc' := 34) (st' := [pw_i k4_2]) rfl (fun _ => rfl) ?_
        refine pw_iret E rfl ?_
        exact ⟨rfl, ⟨_, rfl, by omega, by omega⟩⟩
      · intro hc2
        change ¬ ((12 : Int) ≤ k4_3) at hc2
        refine pw_ld E (pc' := 11) (st' := [pw_i k4_2]) rfl (fun _ => rfl) ?_
        refine pw_ld E (pc' := 12) (st' := [.ref (16 + c), pw_i k4_2]) rfl (fun _ => rfl) ?_
        refine pw_ld E (pc' := 13) (st' := [pw_i k, .ref (16 + c), pw_i k4_2]) rfl (fun _ => rfl) ?_
        refine pw_ld E (pc' := 14) (st' := [pw_i k4_3, pw_i k, .ref (16 + c), pw_i k4_2]) rfl (fun _ => rfl) ?_
        obtain ⟨f3l, f3h, -⟩ := pw_obj (c := c) I (pw_Lg_o hc)
        refine pw_call (m' := 26) (As := [.ref (16 + c), pw_i k, pw_i k4_3]) (rest := [pw_i k4_2]) (ls'' := [some (.ref (16 + c)), some (pw_i k), some (pw_i k4_3)]) (Nat.le_trans (by decide) hd) E rfl (fun _ => pw_iV rfl rfl rfl rfl (pw_cellI f3h rfl)) (rfl : pm_ent 26 = some (3, 3, 2, 1, pmc_26)) rfl rfl (cm_26 (pw_dp hd (by decide)) I c hc (k) (by omega) (by omega) (k4_3) (by omega) (by omega)) ?_
        rintro u5 v4 ⟨rfl, x6, rfl, hx6a, hx6b⟩
        refine ⟨_, rfl, ?_⟩
        show pw X d h 28 17 [some (.ref (16 + c)), some (pw_i k), some (pw_i k4_2), some (pw_i k4_3)] [pw_i x6, pw_i k4_2] _
        refine pw_if E (pc' := 24) rfl (by decide) (by omega) (by omega) ?_ ?_
        · intro hc7
          change x6 = (0 : Int) at hc7
          refine pw_ld E (pc' := 25) (st' := [pw_i 0, pw_i k4_2]) rfl (fun _ => rfl) ?_
          refine pw_add E (pc' := 26) rfl rfl ?_
          refine pw_istn E (pc' := 27) (ls' := [some (.ref (16 + c)), some (pw_i k), some (pw_i (k4_2 + 0)), some (pw_i k4_3)]) rfl rfl rfl rfl ?_
          refine pw_inc E (pc' := 30) (ls' := [some (.ref (16 + c)), some (pw_i k), some (pw_i (k4_2 + 0)), some (pw_i (k4_3 + 1))]) rfl rfl rfl rfl ?_
          refine pw_goto E (pc' := 4) rfl (by decide) ?_
          exact ih4 _ (by omega) (k4_2 + 0) (k4_3 + 1)  (by omega) (by omega) (by omega) (by omega)  rfl
        · intro hc8
          change ¬ (x6 = (0 : Int)) at hc8
          refine pw_ld E (pc' := 21) (st' := [pw_i 1, pw_i k4_2]) rfl (fun _ => rfl) ?_
          refine pw_goto E (pc' := 25) rfl (by decide) ?_
          refine pw_add E (pc' := 26) rfl rfl ?_
          refine pw_nm (fun x9 hx9a hx9b => ?_)
          refine pw_istn E (pc' := 27) (ls' := [some (.ref (16 + c)), some (pw_i k), some (pw_i x9), some (pw_i k4_3)]) rfl rfl rfl rfl ?_
          refine pw_inc E (pc' := 30) (ls' := [some (.ref (16 + c)), some (pw_i k), some (pw_i x9), some (pw_i (k4_3 + 1))]) rfl rfl rfl rfl ?_
          refine pw_goto E (pc' := 4) rfl (by decide) ?_
          exact ih4 _ (by omega) (x9) (k4_3 + 1)  (by omega) (by omega) (by omega) (by omega)  rfl
  exact L4 _ (0) (0)  (by omega) (by omega) (by omega) (by omega)  rfl
set_option maxHeartbeats 4000000 in
theorem cm_29 {X : List (Nat × List Value)} {d : Nat} {h : pm_H} (hd : 1 ≤ d) (I : pw_I h) (c : Nat) (hc : pw_Lg c) : pw X d h 29 0 [some (.ref (16 + c)), none, none] [] (fun h' v => h = h' ∧ ∃ a : Int, v = .inl (some (pw_i a)) ∧ (-2147483648) ≤ a ∧ a ≤ 2147483647) := by
  have E : pm_ent 29 = some (1, 3, 2, 0, pmc_29) := rfl
  refine pw_ld E (pc' := 1) (st' := [pw_i 0]) rfl (fun _ => rfl) ?_
  refine pw_istn E (pc' := 2) (ls' := [some (.ref (16 + c)), some (pw_i 0), none]) rfl rfl rfl rfl ?_
  refine pw_ld E (pc' := 3) (st' := [pw_i 0]) rfl (fun _ => rfl) ?_
  refine pw_istn E (pc' := 4) (ls' := [some (.ref (16 + c)), some (pw_i 0), some (pw_i 0)]) rfl rfl rfl rfl ?_
  have L4 : ∀ (n4 : Nat) (k4_1 : Int) (k4_2 : Int), (-2147483648) ≤ k4_1 → k4_1 ≤ 2147483647 → 0 ≤ k4_2 → k4_2 ≤ 288 → (288 - k4_2).toNat = n4 → pw X d h 29 4 [some (.ref (16 + c)), some (pw_i k4_1), some (pw_i k4_2)] [] (fun h' v => h = h' ∧ ∃ a : Int, v = .inl (some (pw_i a)) ∧ (-2147483648) ≤ a ∧ a ≤ 2147483647) := by
    intro n4
    induction n4 using Nat.strongRecOn with
    | ind n4 ih4 =>
      intro k4_1 k4_2 k4_1a k4_1b k4_2a k4_2b hm4
      refine pw_ld E (pc' := 5) (st' := [pw_i k4_2]) rfl (fun _ => rfl) ?_
      refine pw_ld E (pc' := 6) (st' := [.ref (16 + c), pw_i k4_2]) rfl (fun _ => rfl) ?_
      refine pw_getR (b := 16 + (c + 1)) I E (c := c) (k := 0) (pc' := 9) rfl rfl (pw_Lg_o hc) rfl rfl rfl rfl ?_
      obtain ⟨z1l, z1h, z1n, -⟩ := pw_arr (c := c + 1) I (pw_Lg_1 hc)
      refine pw_alen E (pc' := 10) rfl (pw_rowI z1h rfl) rfl rfl ?_
      rw [z1n]
      refine pw_if2 E (pc' := 38) rfl (by decide) (by omega) (by omega) (by decide) (by decide) ?_ ?_
      · intro hc2
        change (288 : Nat) ≤ k4_2 at hc2
        refine pw_ld E (pc' := 39) (st' := [pw_i k4_1]) rfl (fun _ => rfl) ?_
        refine pw_iret E rfl ?_
        exact ⟨rfl, ⟨_, rfl, by omega, by omega⟩⟩
      · intro hc3
        change ¬ ((288 : Nat) ≤ k4_2) at hc3
        refine pw_ld E (pc' := 14) (st' := [pw_i k4_1]) rfl (fun _ => rfl) ?_
        refine pw_ld E (pc' := 15) (st' := [.ref (16 + c), pw_i k4_1]) rfl (fun _ => rfl) ?_
        refine pw_getR (b := 16 + (c + 1)) I E (c := c) (k := 0) (pc' := 18) rfl rfl (pw_Lg_o hc) rfl rfl rfl rfl ?_
        refine pw_ld E (pc' := 19) (st' := [pw_i k4_2, .ref (16 + (c + 1)), pw_i k4_1]) rfl (fun _ => rfl) ?_
        refine pw_ald2 I E (c := c + 1) (pc' := 20) rfl rfl (pw_Lg_1 hc) (by decide) rfl (by decide) (by omega) (by omega) rfl (fun hf4a hf4b => ?_)
        refine pw_bip E (pc' := 22) rfl rfl (by decide) ?_
        refine pw_if2 E (pc' := 29) rfl (by decide) (by omega) (by omega) (by decide) (by decide) ?_ ?_
        · intro hc5
          change pw_g h (c + 1) (k4_2.toNat) = ((-2) : Int) at hc5
          refine pw_ld E (pc' := 30) (st' := [pw_i 0, pw_i k4_1]) rfl (fun _ => rfl) ?_
          refine pw_add E (pc' := 31) rfl rfl ?_
          refine pw_istn E (pc' := 32) (ls' := [some (.ref (16 + c)), some (pw_i (k4_1 + 0)), some (pw_i k4_2)]) rfl rfl rfl rfl ?_
          refine pw_inc E (pc' := 35) (ls' := [some (.ref (16 + c)), some (pw_i (k4_1 + 0)), some (pw_i (k4_2 + 1))]) rfl rfl rfl rfl ?_
          refine pw_goto E (pc' := 4) rfl (by decide) ?_
          exact ih4 _ (by omega) (k4_1 + 0) (k4_2 + 1)  (by omega) (by omega) (by omega) (by omega)  rfl
        · intro hc6
          change ¬ (pw_g h (c + 1) (k4_2.toNat) = ((-2) : Int)) at hc6
          refine pw_ld E (pc' := 26) (st' := [pw_i 1, pw_i k4_1]) rfl (fun _ => rfl) ?_
          refine pw_goto E (pc' := 30) rfl (by decide) ?_
          refine pw_add E (pc' := 31) rfl rfl ?_
          refine pw_nm (fun x7 hx7a hx7b => ?_)
          refine pw_istn E (pc' := 32) (ls' := [some (.ref (16 + c)), some (pw_i x7), some (pw_i k4_2)]) rfl rfl rfl rfl ?_
          refine pw_inc E (pc' := 35) (ls' := [some (.ref (16 + c)), some (pw_i x7), some (pw_i (k4_2 + 1))]) rfl rfl rfl rfl ?_
          refine pw_goto E (pc' := 4) rfl (by decide) ?_
          exact ih4 _ (by omega) (x7) (k4_2 + 1)  (by omega) (by omega) (by omega) (by omega)  rfl
  exact L4 _ (0) (0)  (by omega) (by omega) (by omega) (by omega)  rfl
end
section
/-! contracts (printed by wip/tool/pwspec.py) -/
set_option maxHeartbeats 4000000 in
theorem cm_7 {X : List (Nat × List Value)} {d : Nat} {h : pm_H} (hd : 1 ≤ d) (I : pw_I h) (x : Int64) (y : Int64) : pw X d h 7 0 [some (.long x), none, some (.long y), none, none, none, none, none, none, none, none] [] (fun h' v => h = h' ∧ ∃ w : Int64, v = .inl (some (.long w))) := by
  have E : pm_ent 7 = some (2, 11, 1, 2, pmc_7) := rfl
  refine pw_ld E (pc' := 1) (st' := [.long x]) rfl (fun _ => rfl) ?_
  refine pw_lst E (pc' := 3) (ls' := [some (.long x), none, some (.long y), none, some (.long x), none, none, none, none, none, none]) rfl rfl rfl rfl ?_
  refine pw_ld E (pc' := 4) (st' := [.long y]) rfl (fun _ => rfl) ?_
  refine pw_lst E (pc' := 6) (ls' := [some (.long x), none, some (.long y), none, some (.long x), none, some (.long y), none, none, none, none]) rfl rfl rfl rfl ?_
  refine pw_ld E (pc' := 7) (st' := [pw_i 0]) rfl (fun _ => rfl) ?_
  refine pw_ist E (pc' := 9) (ls' := [some (.long x), none, some (.long y), none, some (.long x), none, some (.long y), none, some (pw_i 0), none, none]) rfl rfl rfl rfl ?_
  have L9 : ∀ (n9 : Nat) (k9_4 : Int64) (k9_6 : Int64) (k9_8 : Int) (k9_9 : Option Value), 0 ≤ k9_8 → k9_8 ≤ 100 → (100 - k9_8).toNat = n9 → pw X d h 7 9 [some (.long x), none, some (.long y), none, some (.long k9_4), none, some (.long k9_6), none, some (pw_i k9_8), k9_9, none] [] (fun h' v => h = h' ∧ ∃ w : Int64, v = .inl (some (.long w))) := by
    intro n9
    induction n9 using Nat.strongRecOn with
    | ind n9 ih9 =>
      intro k9_4 k9_6 k9_8 k9_9 k9_8a k9_8b hm9
      refine pw_ld E (pc' := 11) (st' := [pw_i k9_8]) rfl (fun _ => rfl) ?_
      refine pw_bip E (pc' := 13) rfl rfl (by decide) ?_
      refine pw_if2 E (pc' := 44) rfl (by decide) (by omega) (by omega) (by decide) (by decide) ?_ ?_
      · intro hc1
        change (100 : Int) ≤ k9_8 at hc1
        refine pw_ld E (pc' := 46) (st' := [.long k9_4]) rfl (fun _ => rfl) ?_
        refine pw_lret E rfl ?_
        exact ⟨rfl, ⟨_, rfl⟩⟩
      · intro hc2
        change ¬ ((100 : Int) ≤ k9_8) at hc2
        refine pw_ld E (pc' := 18) (st' := [.long k9_6]) rfl (fun _ => rfl) ?_
        refine pw_ld E (pc' := 19) (st' := [.long (Int64.ofNat 0), .long k9_6]) rfl (fun _ => rfl) ?_
        refine pw_lcmp E (pc' := 20) rfl rfl (fun c3 hc3 => ?_)
        refine pw_if E (pc' := 44) rfl (by decide) (by omega) (by omega) ?_ ?_
        · intro hc4
          change c3 = (0 : Int) at hc4
          refine pw_ld E (pc' := 46) (st' := [.long k9_4]) rfl (fun _ => rfl) ?_
          refine pw_lret E rfl ?_
          exact ⟨rfl, ⟨_, rfl⟩⟩
        · intro hc5
          change ¬ (c3 = (0 : Int)) at hc5
          refine pw_ld E (pc' := 25) (st' := [.long k9_4]) rfl (fun _ => rfl) ?_
          refine pw_ld E (pc' := 27) (st' := [.long k9_6, .long k9_4]) rfl (fun _ => rfl) ?_
          refine pw_ldivA E (pc' := 28) rfl rfl rfl (pw_nz hc3 (by omega)) ?_
          refine pw_lst E (pc' := 30) (ls' := [some (.long x), none, some (.long y), none, some (.long k9_4), none, some (.long k9_6), none, some (pw_i k9_8), some (.long (k9_4 - k9_4 / k9_6 * k9_6)), none]) rfl rfl rfl rfl ?_
          refine pw_ld E (pc' := 32) (st' := [.long k9_6]) rfl (fun _ => rfl) ?_
          refine pw_lst E (pc' := 34) (ls' := [some (.long x), none, some (.long y), none, some (.long k9_6), none, some (.long k9_6), none, some (pw_i k9_8), some (.long (k9_4 - k9_4 / k9_6 * k9_6)), none]) rfl rfl rfl rfl ?_
          refine pw_ld E (pc' := 36) (st' := [.long (k9_4 - k9_4 / k9_6 * k9_6)]) rfl (fun _ => rfl) ?_
          refine pw_lst E (pc' := 38) (ls' := [some (.long x), none, some (.long y), none, some (.long k9_6), none, some (.long (k9_4 - k9_4 / k9_6 * k9_6)), none, some (pw_i k9_8), some (.long (k9_4 - k9_4 / k9_6 * k9_6)), none]) rfl rfl rfl rfl ?_
          refine pw_inc E (pc' := 41) (ls' := [some (.long x), none, some (.long y), none, some (.long k9_6), none, some (.long (k9_4 - k9_4 / k9_6 * k9_6)), none, some (pw_i (k9_8 + 1)), some (.long (k9_4 - k9_4 / k9_6 * k9_6)), none]) rfl rfl rfl rfl ?_
          refine pw_goto E (pc' := 9) rfl (by decide) ?_
          exact ih9 _ (by omega) (k9_6) (k9_4 - k9_4 / k9_6 * k9_6) (k9_8 + 1) (some (.long (k9_4 - k9_4 / k9_6 * k9_6)))  (by omega) (by omega)  rfl
  exact L9 _ (x) (y) (0) (none)  (by omega) (by omega)  rfl
set_option maxHeartbeats 4000000 in
theorem cm_6 {X : List (Nat × List Value)} {d : Nat} {h : pm_H} (hd : 2 ≤ d) (I : pw_I h) (c : Nat) (hc : pw_Fr c) (x : Int64) (y : Int64) : pw X d h 6 0 [some (.ref (16 + c)), some (.long x), none, some (.long y), none, none, none] [] (fun h' v => pw_I h' ∧ pw_E [c] h h' ∧ v = .inl none) := by
  have E : pm_ent 6 = some (3, 7, 1, 4, pmc_6) := rfl
  have E0 : pw_E [c] h h := pw_E.rf _ _
  refine pw_ld E (pc' := 1) (st' := [.long x]) rfl (fun _ => rfl) ?_
  refine pw_labs E rfl rfl rfl ?_
  refine pw_ld E (pc' := 5) (st' := [.long y, .long (if 0 < x then x else -x)]) rfl (fun _ => rfl) ?_
  refine pw_call (m' := 7) (As := [.long (if 0 < x then x else -x), .long y]) (rest := []) (ls'' := [some (.long (if 0 < x then x else -x)), none, some (.long y), none, none, none, none, none, none, none, none]) (Nat.le_trans (by decide) hd) E rfl (fun _ => pw_iS rfl rfl rfl) (rfl : pm_ent 7 = some (2, 11, 1, 2, pmc_7)) rfl rfl (cm_7 (pw_dp hd (by decide)) I (if 0 < x then x else -x) (y)) ?_
  rintro u2 v1 ⟨rfl, w3, rfl⟩
  refine ⟨_, rfl, ?_⟩
  show pw X d h 6 8 [some (.ref (16 + c)), some (.long x), none, some (.long y), none, none, none] [.long w3] _
  refine pw_lst E (pc' := 10) (ls' := [some (.ref (16 + c)), some (.long x), none, some (.long y), none, some (.long w3), none]) rfl rfl rfl rfl ?_
  refine pw_ld E (pc' := 11) (st' := [.long y]) rfl (fun _ => rfl) ?_
  refine pw_ld E (pc' := 12) (st' := [.long (Int64.ofNat 0), .long y]) rfl (fun _ => rfl) ?_
  refine pw_lcmp E (pc' := 13) rfl rfl (fun c4 hc4 => ?_)
  refine pw_if E (pc' := 23) rfl (by decide) (by omega) (by omega) ?_ ?_
  · intro hc5
    change c4 ≤ (0 : Int) at hc5
    refine pw_vret E rfl ?_
    exact ⟨I, E0, rfl⟩
  · intro hc6
    change ¬ (c4 ≤ (0 : Int)) at hc6
    refine pw_ld E (pc' := 18) (st' := [.long w3]) rfl (fun _ => rfl) ?_
    refine pw_ld E (pc' := 19) (st' := [.long (Int64.ofNat 0), .long w3]) rfl (fun _ => rfl) ?_
    refine pw_lcmp E (pc' := 20) rfl rfl (fun c7 hc7 => ?_)
    refine pw_if E (pc' := 24) rfl (by decide) (by omega) (by omega) ?_ ?_
    · intro hc8
      change (0 : Int) < c7 at hc8
      refine pw_ld E (pc' := 25) (st' := [.ref (16 + c)]) rfl (fun _ => rfl) ?_
      refine pw_ld E (pc' := 26) (st' := [.long x, .ref (16 + c)]) rfl (fun _ => rfl) ?_
      refine pw_ld E (pc' := 28) (st' := [.long w3, .long x, .ref (16 + c)]) rfl (fun _ => rfl) ?_
      refine pw_ldivA E (pc' := 29) rfl rfl rfl (pw_nz hc7 (by omega)) ?_
      refine pw_putL I E (c := c) (k := 0) (pc' := 32) rfl rfl (pw_Fr_o hc) rfl rfl rfl ?_
      intro h10I h10E
      generalize h10w : pw_w h c 0 (.long (x / w3)) = h10 at h10I h10E ⊢
      have h10F := E0.tr (h10E.wk (W' := [c]) (by first | rfl | simp))
      refine pw_ld E (pc' := 33) (st' := [.ref (16 + c)]) rfl (fun _ => rfl) ?_
      refine pw_ld E (pc' := 34) (st' := [.long y, .ref (16 + c)]) rfl (fun _ => rfl) ?_
      refine pw_ld E (pc' := 36) (st' := [.long w3, .long y, .ref (16 + c)]) rfl (fun _ => rfl) ?_
      refine pw_ldivA E (pc' := 37) rfl rfl rfl (pw_nz hc7 (by omega)) ?_
      refine pw_putL h10I E (c := c) (k := 1) (pc' := 40) rfl rfl (pw_Fr_o hc) rfl rfl rfl ?_
      intro h12I h12E
      generalize h12w : pw_w h10 c 1 (.long (y / w3)) = h12 at h12I h12E ⊢
      have h12F := h10F.tr (h12E.wk (W' := [c]) (by first | rfl | simp))
      refine pw_vret E rfl ?_
      exact ⟨h12I, h12F, rfl⟩
    · intro hc13
      change ¬ ((0 : Int) < c7) at hc13
      refine pw_vret E rfl ?_
      exact ⟨I, E0, rfl⟩
set_option maxHeartbeats 4000000 in
theorem cm_327 {X : List (Nat × List Value)} {d : Nat} {h : pm_H} (hd : 1 ≤ d) (I : pw_I h) (x : Int) (hx1 : (-2147483648) ≤ x) (hx2 : x ≤ 2147483647) (y : Int) (hy1 : (-2147483648) ≤ y) (hy2 : y ≤ 2147483647) : pw X d h 327 0 [some (pw_i x), some (pw_i y)] [] (fun h' v => h = h' ∧ ∃ a : Int, v = .inl (some (pw_i a)) ∧ (-1) ≤ a ∧ a ≤ 1) := by
  have E : pm_ent 327 = some (2, 2, 15, 0, pmc_327) := rfl
  refine pw_ld E (pc' := 1) (st' := [pw_i x]) rfl (fun _ => rfl) ?_
  refine pw_ld E (pc' := 2) (st' := [pw_i y, pw_i x]) rfl (fun _ => rfl) ?_
  refine pw_if2 E (pc' := 9) rfl (by decide) (by omega) (by omega) (by omega) (by omega) ?_ ?_
  · intro hc1
    change y ≤ x at hc1
    refine pw_ld E (pc' := 10) (st' := [pw_i x]) rfl (fun _ => rfl) ?_
    refine pw_ld E (pc' := 11) (st' := [pw_i y, pw_i x]) rfl (fun _ => rfl) ?_
    refine pw_if2 E (pc' := 18) rfl (by decide) (by omega) (by omega) (by omega) (by omega) ?_ ?_
    · intro hc2
      change x ≠ y at hc2
      refine pw_ld E (pc' := 19) (st' := [pw_i 1]) rfl (fun _ => rfl) ?_
      refine pw_iret E rfl ?_
      exact ⟨rfl, ⟨_, rfl, by omega, by omega⟩⟩
    · intro hc3
      change ¬ (x ≠ y) at hc3
      refine pw_ld E (pc' := 15) (st' := [pw_i 0]) rfl (fun _ => rfl) ?_
      refine pw_goto E (pc' := 19) rfl (by decide) ?_
      refine pw_iret E rfl ?_
      exact ⟨rfl, ⟨_, rfl, by omega, by omega⟩⟩
  · intro hc4
    change ¬ (y ≤ x) at hc4
    refine pw_ld E (pc' := 6) (st' := [pw_i ((-1))]) rfl (fun _ => rfl) ?_
    refine pw_goto E (pc' := 19) rfl (by decide) ?_
    refine pw_iret E rfl ?_
    exact ⟨rfl, ⟨_, rfl, by omega, by omega⟩⟩
set_option maxHeartbeats 4000000 in
theorem cm_328 {X : List (Nat × List Value)} {d : Nat} {h : pm_H} (hd : 1 ≤ d) (I : pw_I h) (x : Int64) (y : Int64) : pw X d h 328 0 [some (.long x), none, some (.long y), none] [] (fun h' v => h = h' ∧ ∃ a : Int, v = .inl (some (pw_i a)) ∧ (-1) ≤ a ∧ a ≤ 1) := by
  have E : pm_ent 328 = some (2, 4, 16, 0, pmc_328) := rfl
  refine pw_ld E (pc' := 1) (st' := [.long x]) rfl (fun _ => rfl) ?_
  refine pw_ld E (pc' := 2) (st' := [.long y, .long x]) rfl (fun _ => rfl) ?_
  refine pw_lcmp E (pc' := 3) rfl rfl (fun c1 hc1 => ?_)
  refine pw_if E (pc' := 10) rfl (by decide) (by omega) (by omega) ?_ ?_
  · intro hc2
    change (0 : Int) ≤ c1 at hc2
    refine pw_ld E (pc' := 11) (st' := [.long x]) rfl (fun _ => rfl) ?_
    refine pw_ld E (pc' := 12) (st' := [.long y, .long x]) rfl (fun _ => rfl) ?_
    refine pw_lcmp E (pc' := 13) rfl rfl (fun c3 hc3 => ?_)
    refine pw_if E (pc' := 20) rfl (by decide) (by omega) (by omega) ?_ ?_
    · intro hc4
      change c3 ≠ (0 : Int) at hc4
      refine pw_ld E (pc' := 21) (st' := [pw_i 1]) rfl (fun _ => rfl) ?_
      refine pw_iret E rfl ?_
      exact ⟨rfl, ⟨_, rfl, by omega, by omega⟩⟩
    · intro hc5
      change ¬ (c3 ≠ (0 : Int)) at hc5
      refine pw_ld E (pc' := 17) (st' := [pw_i 0]) rfl (fun _ => rfl) ?_
      refine pw_goto E (pc' := 21) rfl (by decide) ?_
      refine pw_iret E rfl ?_
      exact ⟨rfl, ⟨_, rfl, by omega, by omega⟩⟩
  · intro hc6
    change ¬ ((0 : Int) ≤ c1) at hc6
    refine pw_ld E (pc' := 7) (st' := [pw_i ((-1))]) rfl (fun _ => rfl) ?_
    refine pw_goto E (pc' := 21) rfl (by decide) ?_
    refine pw_iret E rfl ?_
    exact ⟨rfl, ⟨_, rfl, by omega, by omega⟩⟩
set_option maxHeartbeats 4000000 in
theorem cm_8 {X : List (Nat × List Value)} {d : Nat} {h : pm_H} (hd : 2 ≤ d) (I : pw_I h) (c : Nat) (hc : pw_Fr c) : pw X d h 8 0 [some (.ref (16 + c))] [] (fun h' v => h = h' ∧ ∃ a : Int, v = .inl (some (pw_i a)) ∧ (-1) ≤ a ∧ a ≤ 1) := by
  have E : pm_ent 8 = some (1, 1, 1, 0, pmc_8) := rfl
  refine pw_ld E (pc' := 1) (st' := [.ref (16 + c)]) rfl (fun _ => rfl) ?_
  refine pw_getL I E (c := c) (k := 0) (pc' := 4) rfl rfl (pw_Fr_o hc) rfl rfl rfl ?_
  refine pw_ld E (pc' := 5) (st' := [.long (Int64.ofNat 0), .long (pw_gl h c 0)]) rfl (fun _ => rfl) ?_
  refine pw_call (m' := 328) (As := [.long (pw_gl h c 0), .long (Int64.ofNat 0)]) (rest := []) (ls'' := [some (.long (pw_gl h c 0)), none, some (.long (Int64.ofNat 0)), none]) (Nat.le_trans (by decide) hd) E rfl (fun _ => pw_iS rfl rfl rfl) (rfl : pm_ent 328 = some (2, 4, 16, 0, pmc_328)) rfl rfl (cm_328 (pw_dp hd (by decide)) I (pw_gl h c 0) (Int64.ofNat 0)) ?_
  rintro u2 v1 ⟨rfl, x3, rfl, hx3a, hx3b⟩
  refine ⟨_, rfl, ?_⟩
  show pw X d h 8 8 [some (.ref (16 + c))] [pw_i x3] _
  refine pw_iret E rfl ?_
  exact ⟨rfl, ⟨_, rfl, by omega, by omega⟩⟩
set_option maxHeartbeats 4000000 in
theorem cm_9 {X : List (Nat × List Value)} {d : Nat} {h : pm_H} (hd : 1 ≤ d) (I : pw_I h) (c : Nat) (hc : pw_Fr c) (n : Int) (hn1 : (-2147483648) ≤ n) (hn2 : n ≤ 2147483647) : pw X d h 9 0 [some (.ref (16 + c)), some (pw_i n)] [] (fun h' v => h = h' ∧ ∃ w : Int64, v = .inl (some (.long w))) := by
  have E : pm_ent 9 = some (2, 2, 1, 2, pmc_9) := rfl
  refine pw_ld E (pc' := 1) (st' := [pw_i n]) rfl (fun _ => rfl) ?_
  refine pw_if E (pc' := 11) rfl (by decide) (by omega) (by omega) ?_ ?_
  · intro hc1
    change n ≠ (0 : Int) at hc1
    refine pw_ld E (pc' := 12) (st' := [.ref (16 + c)]) rfl (fun _ => rfl) ?_
    refine pw_getL I E (c := c) (k := 1) (pc' := 15) rfl rfl (pw_Fr_o hc) rfl rfl rfl ?_
    refine pw_lret E rfl ?_
    exact ⟨rfl, ⟨_, rfl⟩⟩
  · intro hc2
    change ¬ (n ≠ (0 : Int)) at hc2
    refine pw_ld E (pc' := 5) (st' := [.ref (16 + c)]) rfl (fun _ => rfl) ?_
    refine pw_getL I E (c := c) (k := 0) (pc' := 8) rfl rfl (pw_Fr_o hc) rfl rfl rfl ?_
    refine pw_goto E (pc' := 15) rfl (by decide) ?_
    refine pw_lret E rfl ?_
    exact ⟨rfl, ⟨_, rfl⟩⟩
set_option maxHeartbeats 4000000 in
theorem cm_10 {X : List (Nat × List Value)} {d : Nat} {h : pm_H} (hd : 1 ≤ d) (I : pw_I h) (c : Nat) (hc : pw_Fr c) : pw X d h 10 0 [some (.ref (16 + c))] [] (fun h' v => pw_I h' ∧ pw_E [c] h h' ∧ v = .inl none) := by
  have E : pm_ent 10 = some (1, 1, 1, 4, pmc_10) := rfl
  have E0 : pw_E [c] h h := pw_E.rf _ _
  refine pw_ld E (pc' := 1) (st' := [.ref (16 + c)]) rfl (fun _ => rfl) ?_
  refine pw_ld E (pc' := 2) (st' := [.ref (16 + c), .ref (16 + c)]) rfl (fun _ => rfl) ?_
  refine pw_getL I E (c := c) (k := 0) (pc' := 5) rfl rfl (pw_Fr_o hc) rfl rfl rfl ?_
  refine pw_labs E rfl rfl rfl ?_
  refine pw_putL I E (c := c) (k := 0) (pc' := 11) rfl rfl (pw_Fr_o hc) rfl rfl rfl ?_
  intro h1I h1E
  generalize h1w : pw_w h c 0 (.long (if 0 < (pw_gl h c 0) then (pw_gl h c 0) else -(pw_gl h c 0))) = h1 at h1I h1E ⊢
  have h1F := E0.tr (h1E.wk (W' := [c]) (by first | rfl | simp))
  refine pw_vret E rfl ?_
  exact ⟨h1I, h1F, rfl⟩
set_option maxHeartbeats 4000000 in
theorem cm_11 {X : List (Nat × List Value)} {d : Nat} {h : pm_H} (hd : 1 ≤ d) (I : pw_I h) (c : Nat) (hc : pw_Fr c) (c0 : Nat) (hc0 : pw_Fr c0) : pw X d h 11 0 [some (.ref (16 + c)), some (.ref (16 + c0))] [] (fun h' v => h = h' ∧ ∃ a : Int, v = .inl (some (pw_i a)) ∧ 0 ≤ a ∧ a ≤ 1) := by
  have E : pm_ent 11 = some (2, 2, 1, 1, pmc_11) := rfl
  refine pw_ld E (pc' := 1) (st' := [.ref (16 + c)]) rfl (fun _ => rfl) ?_
  refine pw_getL I E (c := c) (k := 0) (pc' := 4) rfl rfl (pw_Fr_o hc) rfl rfl rfl ?_
  refine pw_ld E (pc' := 5) (st' := [.ref (16 + c0), .long (pw_gl h c 0)]) rfl (fun _ => rfl) ?_
  refine pw_getL I E (c := c0) (k := 1) (pc' := 8) rfl rfl (pw_Fr_o hc0) rfl rfl rfl ?_
  refine pw_ld E (pc' := 9) (st' := [.long ((pw_gl h c 0) * (pw_gl h c0 1))]) rfl (fun _ => rfl) ?_
  refine pw_ld E (pc' := 10) (st' := [.ref (16 + c0), .long ((pw_gl h c 0) * (pw_gl h c0 1))]) rfl (fun _ => rfl) ?_
  refine pw_getL I E (c := c0) (k := 0) (pc' := 13) rfl rfl (pw_Fr_o hc0) rfl rfl rfl ?_
  refine pw_ld E (pc' := 14) (st' := [.ref (16 + c), .long (pw_gl h c0 0), .long ((pw_gl h c 0) * (pw_gl h c0 1))]) rfl (fun _ => rfl) ?_
  refine pw_getL I E (c := c) (k := 1) (pc' := 17) rfl rfl (pw_Fr_o hc) rfl rfl rfl ?_
  refine pw_ld E (pc' := 18) (st' := [.long ((pw_gl h c0 0) * (pw_gl h c 1)), .long ((pw_gl h c 0) * (pw_gl h c0 1))]) rfl (fun _ => rfl) ?_
  refine pw_lcmp E (pc' := 19) rfl rfl (fun c1 hc1 => ?_)
  refine pw_if E (pc' := 26) rfl (by decide) (by omega) (by omega) ?_ ?_
  · intro hc2
    change (0 : Int) ≤ c1 at hc2
    refine pw_ld E (pc' := 27) (st' := [pw_i 0]) rfl (fun _ => rfl) ?_
    refine pw_zret E rfl (by omega) ?_
    exact ⟨rfl, ⟨_, rfl, by omega, by omega⟩⟩
  · intro hc3
    change ¬ ((0 : Int) ≤ c1) at hc3
    refine pw_ld E (pc' := 23) (st' := [pw_i 1]) rfl (fun _ => rfl) ?_
    refine pw_goto E (pc' := 27) rfl (by decide) ?_
    refine pw_zret E rfl (by omega) ?_
    exact ⟨rfl, ⟨_, rfl, by omega, by omega⟩⟩
set_option maxHeartbeats 4000000 in
theorem cm_12 {X : List (Nat × List Value)} {d : Nat} {h : pm_H} (hd : 1 ≤ d) (I : pw_I h) (c : Nat) (hc : pw_Fr c) (c0 : Nat) (hc0 : pw_Fr c0) : pw X d h 12 0 [some (.ref (16 + c)), some (.ref (16 + c0))] [] (fun h' v => pw_I h' ∧ pw_E [c] h h' ∧ v = .inl none) := by
  have E : pm_ent 12 = some (2, 2, 1, 4, pmc_12) := rfl
  have E0 : pw_E [c] h h := pw_E.rf _ _
  refine pw_ld E (pc' := 1) (st' := [.ref (16 + c)]) rfl (fun _ => rfl) ?_
  refine pw_ld E (pc' := 2) (st' := [.ref (16 + c0), .ref (16 + c)]) rfl (fun _ => rfl) ?_
  refine pw_getL I E (c := c0) (k := 0) (pc' := 5) rfl rfl (pw_Fr_o hc0) rfl rfl rfl ?_
  refine pw_putL I E (c := c) (k := 0) (pc' := 8) rfl rfl (pw_Fr_o hc) rfl rfl rfl ?_
  intro h1I h1E
  generalize h1w : pw_w h c 0 (.long (pw_gl h c0 0)) = h1 at h1I h1E ⊢
  have h1F := E0.tr (h1E.wk (W' := [c]) (by first | rfl | simp))
  refine pw_ld E (pc' := 9) (st' := [.ref (16 + c)]) rfl (fun _ => rfl) ?_
  refine pw_ld E (pc' := 10) (st' := [.ref (16 + c0), .ref (16 + c)]) rfl (fun _ => rfl) ?_
  refine pw_getL h1I E (c := c0) (k := 1) (pc' := 13) rfl rfl (pw_Fr_o hc0) rfl rfl rfl ?_
  refine pw_putL h1I E (c := c) (k := 1) (pc' := 16) rfl rfl (pw_Fr_o hc) rfl rfl rfl ?_
  intro h2I h2E
  generalize h2w : pw_w h1 c 1 (.long (pw_gl h1 c0 1)) = h2 at h2I h2E ⊢
  have h2F := h1F.tr (h2E.wk (W' := [c]) (by first | rfl | simp))
  refine pw_vret E rfl ?_
  exact ⟨h2I, h2F, rfl⟩
set_option maxHeartbeats 4000000 in
theorem cm_13 {X : List (Nat × List Value)} {d : Nat} {h : pm_H} (hd : 1 ≤ d) (I : pw_I h) (c : Nat) (hc : pw_Fr c) (x : Int64) (y : Int64) : pw X d h 13 0 [some (.ref (16 + c)), some (.long x), none, some (.long y), none] [] (fun h' v => h = h' ∧ ∃ a : Int, v = .inl (some (pw_i a)) ∧ 0 ≤ a ∧ a ≤ 1) := by
  have E : pm_ent 13 = some (3, 5, 1, 1, pmc_13) := rfl
  refine pw_ld E (pc' := 1) (st' := [.ref (16 + c)]) rfl (fun _ => rfl) ?_
  refine pw_getL I E (c := c) (k := 0) (pc' := 4) rfl rfl (pw_Fr_o hc) rfl rfl rfl ?_
  refine pw_ld E (pc' := 5) (st' := [.long y, .long (pw_gl h c 0)]) rfl (fun _ => rfl) ?_
  refine pw_ld E (pc' := 6) (st' := [.long ((pw_gl h c 0) * y)]) rfl (fun _ => rfl) ?_
  refine pw_ld E (pc' := 7) (st' := [.long x, .long ((pw_gl h c 0) * y)]) rfl (fun _ => rfl) ?_
  refine pw_ld E (pc' := 8) (st' := [.ref (16 + c), .long x, .long ((pw_gl h c 0) * y)]) rfl (fun _ => rfl) ?_
  refine pw_getL I E (c := c) (k := 1) (pc' := 11) rfl rfl (pw_Fr_o hc) rfl rfl rfl ?_
  refine pw_ld E (pc' := 12) (st' := [.long (x * (pw_gl h c 1)), .long ((pw_gl h c 0) * y)]) rfl (fun _ => rfl) ?_
  refine pw_lcmp E (pc' := 13) rfl rfl (fun c1 hc1 => ?_)
  refine pw_if E (pc' := 20) rfl (by decide) (by omega) (by omega) ?_ ?_
  · intro hc2
    change c1 < (0 : Int) at hc2
    refine pw_ld E (pc' := 21) (st' := [pw_i 0]) rfl (fun _ => rfl) ?_
    refine pw_zret E rfl (by omega) ?_
    exact ⟨rfl, ⟨_, rfl, by omega, by omega⟩⟩
  · intro hc3
    change ¬ (c1 < (0 : Int)) at hc3
    refine pw_ld E (pc' := 17) (st' := [pw_i 1]) rfl (fun _ => rfl) ?_
    refine pw_goto E (pc' := 21) rfl (by decide) ?_
    refine pw_zret E rfl (by omega) ?_
    exact ⟨rfl, ⟨_, rfl, by omega, by omega⟩⟩
set_option maxHeartbeats 4000000 in
theorem cm_14 {X : List (Nat × List Value)} {d : Nat} {h : pm_H} (hd : 3 ≤ d) (I : pw_I h) (c : Nat) (hc : pw_Fr c) (c0 : Nat) (hc0 : pw_Fr c0) : pw X d h 14 0 [some (.ref (16 + c)), some (.ref (16 + c0))] [] (fun h' v => pw_I h' ∧ pw_E [c] h h' ∧ v = .inl none) := by
  have E : pm_ent 14 = some (2, 2, 1, 4, pmc_14) := rfl
  have E0 : pw_E [c] h h := pw_E.rf _ _
  refine pw_ld E (pc' := 1) (st' := [.ref (16 + c)]) rfl (fun _ => rfl) ?_
  refine pw_ld E (pc' := 2) (st' := [.ref (16 + c), .ref (16 + c)]) rfl (fun _ => rfl) ?_
  refine pw_getL I E (c := c) (k := 0) (pc' := 5) rfl rfl (pw_Fr_o hc) rfl rfl rfl ?_
  refine pw_ld E (pc' := 6) (st' := [.ref (16 + c0), .long (pw_gl h c 0), .ref (16 + c)]) rfl (fun _ => rfl) ?_
  refine pw_getL I E (c := c0) (k := 1) (pc' := 9) rfl rfl (pw_Fr_o hc0) rfl rfl rfl ?_
  refine pw_ld E (pc' := 10) (st' := [.long ((pw_gl h c 0) * (pw_gl h c0 1)), .ref (16 + c)]) rfl (fun _ => rfl) ?_
  refine pw_ld E (pc' := 11) (st' := [.ref (16 + c0), .long ((pw_gl h c 0) * (pw_gl h c0 1)), .ref (16 + c)]) rfl (fun _ => rfl) ?_
  refine pw_getL I E (c := c0) (k := 0) (pc' := 14) rfl rfl (pw_Fr_o hc0) rfl rfl rfl ?_
  refine pw_ld E (pc' := 15) (st' := [.ref (16 + c), .long (pw_gl h c0 0), .long ((pw_gl h c 0) * (pw_gl h c0 1)), .ref (16 + c)]) rfl (fun _ => rfl) ?_
  refine pw_getL I E (c := c) (k := 1) (pc' := 18) rfl rfl (pw_Fr_o hc) rfl rfl rfl ?_
  refine pw_ld E (pc' := 19) (st' := [.long ((pw_gl h c0 0) * (pw_gl h c 1)), .long ((pw_gl h c 0) * (pw_gl h c0 1)), .ref (16 + c)]) rfl (fun _ => rfl) ?_
  refine pw_ld E (pc' := 20) (st' := [.long (((pw_gl h c 0) * (pw_gl h c0 1)) - ((pw_gl h c0 0) * (pw_gl h c 1))), .ref (16 + c)]) rfl (fun _ => rfl) ?_
  refine pw_ld E (pc' := 21) (st' := [.ref (16 + c), .long (((pw_gl h c 0) * (pw_gl h c0 1)) - ((pw_gl h c0 0) * (pw_gl h c 1))), .ref (16 + c)]) rfl (fun _ => rfl) ?_
  refine pw_getL I E (c := c) (k := 1) (pc' := 24) rfl rfl (pw_Fr_o hc) rfl rfl rfl ?_
  refine pw_ld E (pc' := 25) (st' := [.ref (16 + c0), .long (pw_gl h c 1), .long (((pw_gl h c 0) * (pw_gl h c0 1)) - ((pw_gl h c0 0) * (pw_gl h c 1))), .ref (16 + c)]) rfl (fun _ => rfl) ?_
  refine pw_getL I E (c := c0) (k := 1) (pc' := 28) rfl rfl (pw_Fr_o hc0) rfl rfl rfl ?_
  refine pw_ld E (pc' := 29) (st' := [.long ((pw_gl h c 1) * (pw_gl h c0 1)), .long (((pw_gl h c 0) * (pw_gl h c0 1)) - ((pw_gl h c0 0) * (pw_gl h c 1))), .ref (16 + c)]) rfl (fun _ => rfl) ?_
  obtain ⟨f1l, f1h, -⟩ := pw_obj (c := c) I (pw_Fr_o hc)
  refine pw_call (m' := 6) (As := [.ref (16 + c), .long (((pw_gl h c 0) * (pw_gl h c0 1)) - ((pw_gl h c0 0) * (pw_gl h c 1))), .long ((pw_gl h c 1) * (pw_gl h c0 1))]) (rest := []) (ls'' := [some (.ref (16 + c)), some (.long (((pw_gl h c 0) * (pw_gl h c0 1)) - ((pw_gl h c0 0) * (pw_gl h c 1)))), none, some (.long ((pw_gl h c 1) * (pw_gl h c0 1))), none, none, none]) (Nat.le_trans (by decide) hd) E rfl (fun _ => pw_iV rfl rfl rfl rfl (pw_cellI f1h rfl)) (rfl : pm_ent 6 = some (3, 7, 1, 4, pmc_6)) rfl rfl (cm_6 (pw_dp hd (by decide)) I c hc (((pw_gl h c 0) * (pw_gl h c0 1)) - ((pw_gl h c0 0) * (pw_gl h c 1))) ((pw_gl h c 1) * (pw_gl h c0 1))) ?_
  rintro h2 v3 ⟨h2I, h2E, rfl⟩
  refine ⟨_, rfl, ?_⟩
  have h2F := E0.tr (h2E.wk (W' := [c]) (by first | rfl | simp))
  show pw X d h2 14 32 [some (.ref (16 + c)), some (.ref (16 + c0))] [] _
  refine pw_vret E rfl ?_
  exact ⟨h2I, h2F, rfl⟩
set_option maxHeartbeats 4000000 in
theorem cm_36 {X : List (Nat × List Value)} {d : Nat} {h : pm_H} (hd : 1 ≤ d) (I : pw_I h)  : pw X d h 36 0 [some (.ref 116)] [] (fun h' v => h = h' ∧ ∃ a : Int, v = .inl (some (pw_i a)) ∧ 0 ≤ a ∧ a ≤ 1 ∧ ((a = 1 ∧ 20 ≤ pw_g h 100 3) ∨ (a = 0 ∧ pw_g h 100 3 < 20))) := by
  have E : pm_ent 36 = some (1, 1, 4, 1, pmc_36) := rfl
  refine pw_ld E (pc' := 1) (st' := [.ref 116]) rfl (fun _ => rfl) ?_
  refine pw_getI2 I E (c := 100) (k := 3) (pc' := 4) rfl rfl rfl rfl rfl rfl (fun hf1a hf1b => ?_)
  refine pw_bip E (pc' := 6) rfl rfl (by decide) ?_
  refine pw_if2 E (pc' := 13) rfl (by decide) (by omega) (by omega) (by decide) (by decide) ?_ ?_
  · intro hc2
    change pw_g h 100 3 < (20 : Int) at hc2
    refine pw_ld E (pc' := 14) (st' := [pw_i 0]) rfl (fun _ => rfl) ?_
    refine pw_zret E rfl (by omega) ?_
    exact ⟨rfl, ⟨_, rfl, by omega, by omega, by omega⟩⟩
  · intro hc3
    change ¬ (pw_g h 100 3 < (20 : Int)) at hc3
    refine pw_ld E (pc' := 10) (st' := [pw_i 1]) rfl (fun _ => rfl) ?_
    refine pw_goto E (pc' := 14) rfl (by decide) ?_
    refine pw_zret E rfl (by omega) ?_
    exact ⟨rfl, ⟨_, rfl, by omega, by omega, by omega⟩⟩
set_option maxHeartbeats 4000000 in
theorem cm_40 {X : List (Nat × List Value)} {d : Nat} {h : pm_H} (hd : 1 ≤ d) (I : pw_I h)  : pw X d h 40 0 [some (.ref 116)] [] (fun h' v => h = h' ∧ ∃ a : Int, v = .inl (some (pw_i a)) ∧ 0 ≤ a ∧ a ≤ 20) := by
  have E : pm_ent 40 = some (1, 1, 4, 0, pmc_40) := rfl
  refine pw_ld E (pc' := 1) (st' := [.ref 116]) rfl (fun _ => rfl) ?_
  refine pw_getI2 I E (c := 100) (k := 3) (pc' := 4) rfl rfl rfl rfl rfl rfl (fun hf1a hf1b => ?_)
  refine pw_iret E rfl ?_
  exact ⟨rfl, ⟨_, rfl, by omega, by omega⟩⟩
set_option maxHeartbeats 4000000 in
theorem cm_42 {X : List (Nat × List Value)} {d : Nat} {h : pm_H} (hd : 1 ≤ d) (I : pw_I h)  : pw X d h 42 0 [some (.ref 116), none, none] [] (fun h' v => h = h' ∧ ∃ a : Int, v = .inl (some (pw_i a)) ∧ (-2147483648) ≤ a ∧ a ≤ 2147483647) := by
  have E : pm_ent 42 = some (1, 3, 4, 0, pmc_42) := rfl
  refine pw_ld E (pc' := 1) (st' := [pw_i 0]) rfl (fun _ => rfl) ?_
  refine pw_istn E (pc' := 2) (ls' := [some (.ref 116), some (pw_i 0), none]) rfl rfl rfl rfl ?_
  refine pw_ld E (pc' := 3) (st' := [pw_i 0]) rfl (fun _ => rfl) ?_
  refine pw_istn E (pc' := 4) (ls' := [some (.ref 116), some (pw_i 0), some (pw_i 0)]) rfl rfl rfl rfl ?_
  have L4 : ∀ (n4 : Nat) (k4_1 : Int) (k4_2 : Int), (-2147483648) ≤ k4_1 → k4_1 ≤ 2147483647 → 0 ≤ k4_2 → k4_2 ≤ 20 → (20 - k4_2).toNat = n4 → pw X d h 42 4 [some (.ref 116), some (pw_i k4_1), some (pw_i k4_2)] [] (fun h' v => h = h' ∧ ∃ a : Int, v = .inl (some (pw_i a)) ∧ (-2147483648) ≤ a ∧ a ≤ 2147483647) := by
    intro n4
    induction n4 using Nat.strongRecOn with
    | ind n4 ih4 =>
      intro k4_1 k4_2 k4_1a k4_1b k4_2a k4_2b hm4
      refine pw_ld E (pc' := 5) (st' := [pw_i k4_2]) rfl (fun _ => rfl) ?_
      refine pw_ld E (pc' := 6) (st' := [.ref 116, pw_i k4_2]) rfl (fun _ => rfl) ?_
      refine pw_getI2 I E (c := 100) (k := 3) (pc' := 9) rfl rfl rfl rfl rfl rfl (fun hf1a hf1b => ?_)
      refine pw_if2 E (pc' := 35) rfl (by decide) (by omega) (by omega) (by omega) (by omega) ?_ ?_
      · intro hc2
        change pw_g h 100 3 ≤ k4_2 at hc2
        refine pw_ld E (pc' := 36) (st' := [pw_i k4_1]) rfl (fun _ => rfl) ?_
        refine pw_iret E rfl ?_
        exact ⟨rfl, ⟨_, rfl, by omega, by omega⟩⟩
      · intro hc3
        change ¬ (pw_g h 100 3 ≤ k4_2) at hc3
        refine pw_ld E (pc' := 13) (st' := [pw_i k4_1]) rfl (fun _ => rfl) ?_
        refine pw_ld E (pc' := 14) (st' := [.ref 116, pw_i k4_1]) rfl (fun _ => rfl) ?_
        refine pw_getR (b := 119) I E (c := 100) (k := 2) (pc' := 17) rfl rfl rfl rfl rfl rfl rfl ?_
        refine pw_ld E (pc' := 18) (st' := [pw_i k4_2, .ref 119, pw_i k4_1]) rfl (fun _ => rfl) ?_
        refine pw_ald2 I E (c := 103) (pc' := 19) rfl rfl rfl (by decide) rfl (by decide) (by omega) (by omega) rfl (fun hf4a hf4b => ?_)
        refine pw_if E (pc' := 26) rfl (by decide) (by omega) (by omega) ?_ ?_
        · intro hc5
          change pw_g h 103 (k4_2.toNat) = (0 : Int) at hc5
          refine pw_ld E (pc' := 27) (st' := [pw_i 0, pw_i k4_1]) rfl (fun _ => rfl) ?_
          refine pw_add E (pc' := 28) rfl rfl ?_
          refine pw_istn E (pc' := 29) (ls' := [some (.ref 116), some (pw_i (k4_1 + 0)), some (pw_i k4_2)]) rfl rfl rfl rfl ?_
          refine pw_inc E (pc' := 32) (ls' := [some (.ref 116), some (pw_i (k4_1 + 0)), some (pw_i (k4_2 + 1))]) rfl rfl rfl rfl ?_
          refine pw_goto E (pc' := 4) rfl (by decide) ?_
          exact ih4 _ (by omega) (k4_1 + 0) (k4_2 + 1)  (by omega) (by omega) (by omega) (by omega)  rfl
        · intro hc6
          change ¬ (pw_g h 103 (k4_2.toNat) = (0 : Int)) at hc6
          refine pw_ld E (pc' := 23) (st' := [pw_i 1, pw_i k4_1]) rfl (fun _ => rfl) ?_
          refine pw_goto E (pc' := 27) rfl (by decide) ?_
          refine pw_add E (pc' := 28) rfl rfl ?_
          refine pw_nm (fun x7 hx7a hx7b => ?_)
          refine pw_istn E (pc' := 29) (ls' := [some (.ref 116), some (pw_i x7), some (pw_i k4_2)]) rfl rfl rfl rfl ?_
          refine pw_inc E (pc' := 32) (ls' := [some (.ref 116), some (pw_i x7), some (pw_i (k4_2 + 1))]) rfl rfl rfl rfl ?_
          refine pw_goto E (pc' := 4) rfl (by decide) ?_
          exact ih4 _ (by omega) (x7) (k4_2 + 1)  (by omega) (by omega) (by omega) (by omega)  rfl
  exact L4 _ (0) (0)  (by omega) (by omega) (by omega) (by omega)  rfl
set_option maxHeartbeats 4000000 in
theorem cm_38 {X : List (Nat × List Value)} {d : Nat} {h : pm_H} (hd : 1 ≤ d) (I : pw_I h) (z : Int) (hz1 : 0 ≤ z) (hz2 : z ≤ 1) : pw X d h 38 0 [some (.ref 116), some (pw_i z), none, none] [] (fun h' v => h = h' ∧ ∃ a : Int, v = .inl (some (pw_i a)) ∧ (-2147483648) ≤ a ∧ a ≤ 2147483647) := by
  have E : pm_ent 38 = some (2, 4, 4, 0, pmc_38) := rfl
  refine pw_ld E (pc' := 1) (st' := [pw_i 0]) rfl (fun _ => rfl) ?_
  refine pw_istn E (pc' := 2) (ls' := [some (.ref 116), some (pw_i z), some (pw_i 0), none]) rfl rfl rfl rfl ?_
  refine pw_ld E (pc' := 3) (st' := [pw_i 0]) rfl (fun _ => rfl) ?_
  refine pw_istn E (pc' := 4) (ls' := [some (.ref 116), some (pw_i z), some (pw_i 0), some (pw_i 0)]) rfl rfl rfl rfl ?_
  have L4 : ∀ (n4 : Nat) (k4_2 : Int) (k4_3 : Int), (-2147483648) ≤ k4_2 → k4_2 ≤ 2147483647 → 0 ≤ k4_3 → k4_3 ≤ 20 → (20 - k4_3).toNat = n4 → pw X d h 38 4 [some (.ref 116), some (pw_i z), some (pw_i k4_2), some (pw_i k4_3)] [] (fun h' v => h = h' ∧ ∃ a : Int, v = .inl (some (pw_i a)) ∧ (-2147483648) ≤ a ∧ a ≤ 2147483647) := by
    intro n4
    induction n4 using Nat.strongRecOn with
    | ind n4 ih4 =>
      intro k4_2 k4_3 k4_2a k4_2b k4_3a k4_3b hm4
      refine pw_ld E (pc' := 5) (st' := [pw_i k4_3]) rfl (fun _ => rfl) ?_
      refine pw_ld E (pc' := 6) (st' := [.ref 116, pw_i k4_3]) rfl (fun _ => rfl) ?_
      refine pw_getI2 I E (c := 100) (k := 3) (pc' := 9) rfl rfl rfl rfl rfl rfl (fun hf1a hf1b => ?_)
      refine pw_if2 E (pc' := 44) rfl (by decide) (by omega) (by omega) (by omega) (by omega) ?_ ?_
      · intro hc2
        change pw_g h 100 3 ≤ k4_3 at hc2
        refine pw_ld E (pc' := 45) (st' := [pw_i k4_2]) rfl (fun _ => rfl) ?_
        refine pw_iret E rfl ?_
        exact ⟨rfl, ⟨_, rfl, by omega, by omega⟩⟩
      · intro hc3
        change ¬ (pw_g h 100 3 ≤ k4_3) at hc3
        refine pw_ld E (pc' := 13) (st' := [pw_i k4_2]) rfl (fun _ => rfl) ?_
        refine pw_ld E (pc' := 14) (st' := [.ref 116, pw_i k4_2]) rfl (fun _ => rfl) ?_
        refine pw_getR (b := 119) I E (c := 100) (k := 2) (pc' := 17) rfl rfl rfl rfl rfl rfl rfl ?_
        refine pw_ld E (pc' := 18) (st' := [pw_i k4_3, .ref 119, pw_i k4_2]) rfl (fun _ => rfl) ?_
        refine pw_ald2 I E (c := 103) (pc' := 19) rfl rfl rfl (by decide) rfl (by decide) (by omega) (by omega) rfl (fun hf4a hf4b => ?_)
        refine pw_if E (pc' := 26) rfl (by decide) (by omega) (by omega) ?_ ?_
        · intro hc5
          change pw_g h 103 (k4_3.toNat) ≠ (0 : Int) at hc5
          refine pw_ld E (pc' := 27) (st' := [.ref 116, pw_i k4_2]) rfl (fun _ => rfl) ?_
          refine pw_getR (b := 118) I E (c := 100) (k := 1) (pc' := 30) rfl rfl rfl rfl rfl rfl rfl ?_
          refine pw_ld E (pc' := 31) (st' := [pw_i k4_3, .ref 118, pw_i k4_2]) rfl (fun _ => rfl) ?_
          refine pw_ald2 I E (c := 102) (pc' := 32) rfl rfl rfl (by decide) rfl (by decide) (by omega) (by omega) rfl (fun hf6a hf6b => ?_)
          refine pw_goto E (pc' := 36) rfl (by decide) ?_
          refine pw_add E (pc' := 37) rfl rfl ?_
          refine pw_nm (fun x7 hx7a hx7b => ?_)
          refine pw_istn E (pc' := 38) (ls' := [some (.ref 116), some (pw_i z), some (pw_i x7), some (pw_i k4_3)]) rfl rfl rfl rfl ?_
          refine pw_inc E (pc' := 41) (ls' := [some (.ref 116), some (pw_i z), some (pw_i x7), some (pw_i (k4_3 + 1))]) rfl rfl rfl rfl ?_
          refine pw_goto E (pc' := 4) rfl (by decide) ?_
          exact ih4 _ (by omega) (x7) (k4_3 + 1)  (by omega) (by omega) (by omega) (by omega)  rfl
        · intro hc8
          change ¬ (pw_g h 103 (k4_3.toNat) ≠ (0 : Int)) at hc8
          refine pw_ld E (pc' := 23) (st' := [pw_i z, pw_i k4_2]) rfl (fun _ => rfl) ?_
          refine pw_if E (pc' := 35) rfl (by decide) (by omega) (by omega) ?_ ?_
          · intro hc9
            change z ≠ (0 : Int) at hc9
            refine pw_ld E (pc' := 36) (st' := [pw_i 0, pw_i k4_2]) rfl (fun _ => rfl) ?_
            refine pw_add E (pc' := 37) rfl rfl ?_
            refine pw_istn E (pc' := 38) (ls' := [some (.ref 116), some (pw_i z), some (pw_i (k4_2 + 0)), some (pw_i k4_3)]) rfl rfl rfl rfl ?_
            refine pw_inc E (pc' := 41) (ls' := [some (.ref 116), some (pw_i z), some (pw_i (k4_2 + 0)), some (pw_i (k4_3 + 1))]) rfl rfl rfl rfl ?_
            refine pw_goto E (pc' := 4) rfl (by decide) ?_
            exact ih4 _ (by omega) (k4_2 + 0) (k4_3 + 1)  (by omega) (by omega) (by omega) (by omega)  rfl
          · intro hc10
            change ¬ (z ≠ (0 : Int)) at hc10
            refine pw_ld E (pc' := 27) (st' := [.ref 116, pw_i k4_2]) rfl (fun _ => rfl) ?_
            refine pw_getR (b := 118) I E (c := 100) (k := 1) (pc' := 30) rfl rfl rfl rfl rfl rfl rfl ?_
            refine pw_ld E (pc' := 31) (st' := [pw_i k4_3, .ref 118, pw_i k4_2]) rfl (fun _ => rfl) ?_
            refine pw_ald2 I E (c := 102) (pc' := 32) rfl rfl rfl (by decide) rfl (by decide) (by omega) (by omega) rfl (fun hf11a hf11b => ?_)
            refine pw_goto E (pc' := 36) rfl (by decide) ?_
            refine pw_add E (pc' := 37) rfl rfl ?_
            refine pw_nm (fun x12 hx12a hx12b => ?_)
            refine pw_istn E (pc' := 38) (ls' := [some (.ref 116), some (pw_i z), some (pw_i x12), some (pw_i k4_3)]) rfl rfl rfl rfl ?_
            refine pw_inc E (pc' := 41) (ls' := [some (.ref 116), some (pw_i z), some (pw_i x12), some (pw_i (k4_3 + 1))]) rfl rfl rfl rfl ?_
            refine pw_goto E (pc' := 4) rfl (by decide) ?_
            exact ih4 _ (by omega) (x12) (k4_3 + 1)  (by omega) (by omega) (by omega) (by omega)  rfl
  exact L4 _ (0) (0)  (by omega) (by omega) (by omega) (by omega)  rfl
set_option maxHeartbeats 4000000 in
theorem cm_39 {X : List (Nat × List Value)} {d : Nat} {h : pm_H} (hd : 1 ≤ d) (I : pw_I h) (z : Int) (hz1 : 0 ≤ z) (hz2 : z ≤ 1) : pw X d h 39 0 [some (.ref 116), some (pw_i z), none, none] [] (fun h' v => h = h' ∧ ∃ a : Int, v = .inl (some (pw_i a)) ∧ (-2147483648) ≤ a ∧ a ≤ 2147483647) := by
  have E : pm_ent 39 = some (2, 4, 4, 0, pmc_39) := rfl
  refine pw_ld E (pc' := 1) (st' := [pw_i 0]) rfl (fun _ => rfl) ?_
  refine pw_istn E (pc' := 2) (ls' := [some (.ref 116), some (pw_i z), some (pw_i 0), none]) rfl rfl rfl rfl ?_
  refine pw_ld E (pc' := 3) (st' := [pw_i 0]) rfl (fun _ => rfl) ?_
  refine pw_istn E (pc' := 4) (ls' := [some (.ref 116), some (pw_i z), some (pw_i 0), some (pw_i 0)]) rfl rfl rfl rfl ?_
  have L4 : ∀ (n4 : Nat) (k4_2 : Int) (k4_3 : Int), (-2147483648) ≤ k4_2 → k4_2 ≤ 2147483647 → 0 ≤ k4_3 → k4_3 ≤ 20 → (20 - k4_3).toNat = n4 → pw X d h 39 4 [some (.ref 116), some (pw_i z), some (pw_i k4_2), some (pw_i k4_3)] [] (fun h' v => h = h' ∧ ∃ a : Int, v = .inl (some (pw_i a)) ∧ (-2147483648) ≤ a ∧ a ≤ 2147483647) := by
    intro n4
    induction n4 using Nat.strongRecOn with
    | ind n4 ih4 =>
      intro k4_2 k4_3 k4_2a k4_2b k4_3a k4_3b hm4
      refine pw_ld E (pc' := 5) (st' := [pw_i k4_3]) rfl (fun _ => rfl) ?_
      refine pw_ld E (pc' := 6) (st' := [.ref 116, pw_i k4_3]) rfl (fun _ => rfl) ?_
      refine pw_getI2 I E (c := 100) (k := 3) (pc' := 9) rfl rfl rfl rfl rfl rfl (fun hf1a hf1b => ?_)
      refine pw_if2 E (pc' := 44) rfl (by decide) (by omega) (by omega) (by omega) (by omega) ?_ ?_
      · intro hc2
        change pw_g h 100 3 ≤ k4_3 at hc2
        refine pw_ld E (pc' := 45) (st' := [pw_i k4_2]) rfl (fun _ => rfl) ?_
        refine pw_iret E rfl ?_
        exact ⟨rfl, ⟨_, rfl, by omega, by omega⟩⟩
      · intro hc3
        change ¬ (pw_g h 100 3 ≤ k4_3) at hc3
        refine pw_ld E (pc' := 13) (st' := [pw_i k4_2]) rfl (fun _ => rfl) ?_
        refine pw_ld E (pc' := 14) (st' := [.ref 116, pw_i k4_2]) rfl (fun _ => rfl) ?_
        refine pw_getR (b := 119) I E (c := 100) (k := 2) (pc' := 17) rfl rfl rfl rfl rfl rfl rfl ?_
        refine pw_ld E (pc' := 18) (st' := [pw_i k4_3, .ref 119, pw_i k4_2]) rfl (fun _ => rfl) ?_
        refine pw_ald2 I E (c := 103) (pc' := 19) rfl rfl rfl (by decide) rfl (by decide) (by omega) (by omega) rfl (fun hf4a hf4b => ?_)
        refine pw_if E (pc' := 26) rfl (by decide) (by omega) (by omega) ?_ ?_
        · intro hc5
          change pw_g h 103 (k4_3.toNat) ≠ (0 : Int) at hc5
          refine pw_ld E (pc' := 27) (st' := [.ref 116, pw_i k4_2]) rfl (fun _ => rfl) ?_
          refine pw_getR (b := 117) I E (c := 100) (k := 0) (pc' := 30) rfl rfl rfl rfl rfl rfl rfl ?_
          refine pw_ld E (pc' := 31) (st' := [pw_i k4_3, .ref 117, pw_i k4_2]) rfl (fun _ => rfl) ?_
          refine pw_ald2 I E (c := 101) (pc' := 32) rfl rfl rfl (by decide) rfl (by decide) (by omega) (by omega) rfl (fun hf6a hf6b => ?_)
          refine pw_goto E (pc' := 36) rfl (by decide) ?_
          refine pw_add E (pc' := 37) rfl rfl ?_
          refine pw_nm (fun x7 hx7a hx7b => ?_)
          refine pw_istn E (pc' := 38) (ls' := [some (.ref 116), some (pw_i z), some (pw_i x7), some (pw_i k4_3)]) rfl rfl rfl rfl ?_
          refine pw_inc E (pc' := 41) (ls' := [some (.ref 116), some (pw_i z), some (pw_i x7), some (pw_i (k4_3 + 1))]) rfl rfl rfl rfl ?_
          refine pw_goto E (pc' := 4) rfl (by decide) ?_
          exact ih4 _ (by omega) (x7) (k4_3 + 1)  (by omega) (by omega) (by omega) (by omega)  rfl
        · intro hc8
          change ¬ (pw_g h 103 (k4_3.toNat) ≠ (0 : Int)) at hc8
          refine pw_ld E (pc' := 23) (st' := [pw_i z, pw_i k4_2]) rfl (fun _ => rfl) ?_
          refine pw_if E (pc' := 35) rfl (by decide) (by omega) (by omega) ?_ ?_
          · intro hc9
            change z ≠ (0 : Int) at hc9
            refine pw_ld E (pc' := 36) (st' := [pw_i 0, pw_i k4_2]) rfl (fun _ => rfl) ?_
            refine pw_add E (pc' := 37) rfl rfl ?_
            refine pw_istn E (pc' := 38) (ls' := [some (.ref 116), some (pw_i z), some (pw_i (k4_2 + 0)), some (pw_i k4_3)]) rfl rfl rfl rfl ?_
            refine pw_inc E (pc' := 41) (ls' := [some (.ref 116), some (pw_i z), some (pw_i (k4_2 + 0)), some (pw_i (k4_3 + 1))]) rfl rfl rfl rfl ?_
            refine pw_goto E (pc' := 4) rfl (by decide) ?_
            exact ih4 _ (by omega) (k4_2 + 0) (k4_3 + 1)  (by omega) (by omega) (by omega) (by omega)  rfl
          · intro hc10
            change ¬ (z ≠ (0 : Int)) at hc10
            refine pw_ld E (pc' := 27) (st' := [.ref 116, pw_i k4_2]) rfl (fun _ => rfl) ?_
            refine pw_getR (b := 117) I E (c := 100) (k := 0) (pc' := 30) rfl rfl rfl rfl rfl rfl rfl ?_
            refine pw_ld E (pc' := 31) (st' := [pw_i k4_3, .ref 117, pw_i k4_2]) rfl (fun _ => rfl) ?_
            refine pw_ald2 I E (c := 101) (pc' := 32) rfl rfl rfl (by decide) rfl (by decide) (by omega) (by omega) rfl (fun hf11a hf11b => ?_)
            refine pw_goto E (pc' := 36) rfl (by decide) ?_
            refine pw_add E (pc' := 37) rfl rfl ?_
            refine pw_nm (fun x12 hx12a hx12b => ?_)
            refine pw_istn E (pc' := 38) (ls' := [some (.ref 116), some (pw_i z), some (pw_i x12), some (pw_i k4_3)]) rfl rfl rfl rfl ?_
            refine pw_inc E (pc' := 41) (ls' := [some (.ref 116), some (pw_i z), some (pw_i x12), some (pw_i (k4_3 + 1))]) rfl rfl rfl rfl ?_
            refine pw_goto E (pc' := 4) rfl (by decide) ?_
            exact ih4 _ (by omega) (x12) (k4_3 + 1)  (by omega) (by omega) (by omega) (by omega)  rfl
  exact L4 _ (0) (0)  (by omega) (by omega) (by omega) (by omega)  rfl
end
section
/-! contracts (printed by wip/tool/pwspec.py) -/
set_option maxHeartbeats 4000000 in
theorem cm_81 {X : List (Nat × List Value)} {d : Nat} {h : pm_H} (hd : 1 ≤ d) (I : pw_I h)  : pw X d h 81 0 [some (.ref 32)] [] (fun h' v => pw_I h' ∧ pw_E [17] h h' ∧ v = .inl none) := by
  have E : pm_ent 81 = some (1, 1, 8, 4, pmc_81) := rfl
  have E0 : pw_E [17] h h := pw_E.rf _ _
  refine pw_ld E (pc' := 1) (st' := [.ref 32]) rfl (fun _ => rfl) ?_
  refine pw_getR (b := 33) I E (c := 16) (k := 0) (pc' := 4) rfl rfl rfl rfl rfl rfl rfl ?_
  refine pw_ld E (pc' := 5) (st' := [pw_i ((-1)), .ref 33]) rfl (fun _ => rfl) ?_
  refine pw_fill I E (c := 17) rfl rfl rfl (by decide) (by omega) (by omega) (by omega) (by omega) rfl rfl ?_
  intro h1I h1E
  generalize h.set 17 (.inl (0, List.replicate 24 (pw_i ((-1))))) = h1 at h1I h1E ⊢
  have h1F := E0.tr (h1E.wk (W' := [17]) (by first | rfl | simp))
  refine pw_vret E rfl ?_
  exact ⟨h1I, h1F, rfl⟩
set_option maxHeartbeats 4000000 in
theorem cm_82 {X : List (Nat × List Value)} {d : Nat} {h : pm_H} (hd : 1 ≤ d) (I : pw_I h) (k : Int) (hk1 : 0 ≤ k) (hk2 : k ≤ 23) (sd : Int) (hsd1 : (-1) ≤ sd) (hsd2 : sd ≤ 1) (ch : Int) (hch1 : (-2147483648) ≤ ch) (hch2 : ch ≤ 2147483647) : pw X d h 82 0 [some (.ref 32), some (pw_i k), some (pw_i sd), some (pw_i ch)] [] (fun h' v => pw_I h' ∧ pw_E [17, 18] h h' ∧ v = .inl none) := by
  have E : pm_ent 82 = some (4, 4, 8, 4, pmc_82) := rfl
  have E0 : pw_E [17, 18] h h := pw_E.rf _ _
  refine pw_ld E (pc' := 1) (st' := [.ref 32]) rfl (fun _ => rfl) ?_
  refine pw_getR (b := 33) I E (c := 16) (k := 0) (pc' := 4) rfl rfl rfl rfl rfl rfl rfl ?_
  refine pw_ld E (pc' := 5) (st' := [pw_i k, .ref 33]) rfl (fun _ => rfl) ?_
  refine pw_ld E (pc' := 6) (st' := [pw_i sd, pw_i k, .ref 33]) rfl (fun _ => rfl) ?_
  refine pw_ast0 I E (c := 17) (pc' := 7) rfl rfl rfl (by decide) rfl (by decide) (by omega) (by omega) rfl (by omega) (by omega) (by omega) (by omega) rfl ?_
  intro h1I h1E
  generalize h1w : pw_w h 17 (k.toNat) (pw_i sd) = h1 at h1I h1E ⊢
  have h1F := E0.tr (h1E.wk (W' := [17, 18]) (by first | rfl | simp))
  refine pw_ld E (pc' := 8) (st' := [.ref 32]) rfl (fun _ => rfl) ?_
  refine pw_getR (b := 34) h1I E (c := 16) (k := 1) (pc' := 11) rfl rfl rfl rfl rfl rfl rfl ?_
  refine pw_ld E (pc' := 12) (st' := [pw_i k, .ref 34]) rfl (fun _ => rfl) ?_
  refine pw_ld E (pc' := 13) (st' := [pw_i ch, pw_i k, .ref 34]) rfl (fun _ => rfl) ?_
  refine pw_ast0 h1I E (c := 18) (pc' := 14) rfl rfl rfl (by decide) rfl (by decide) (by omega) (by omega) rfl (by omega) (by omega) (by omega) (by omega) rfl ?_
  intro h2I h2E
  generalize h2w : pw_w h1 18 (k.toNat) (pw_i ch) = h2 at h2I h2E ⊢
  have h2F := h1F.tr (h2E.wk (W' := [17, 18]) (by first | rfl | simp))
  refine pw_vret E rfl ?_
  exact ⟨h2I, h2F, rfl⟩
set_option maxHeartbeats 4000000 in
theorem cm_93 {X : List (Nat × List Value)} {d : Nat} {h : pm_H} (hd : 1 ≤ d) (I : pw_I h) (k : Int) (hk1 : 0 ≤ k) (hk2 : k ≤ 23) : pw X d h 93 0 [some (.ref 32), some (pw_i k)] [] (fun h' v => pw_I h' ∧ pw_E [17] h h' ∧ v = .inl none) := by
  have E : pm_ent 93 = some (2, 2, 8, 4, pmc_93) := rfl
  have E0 : pw_E [17] h h := pw_E.rf _ _
  refine pw_ld E (pc' := 1) (st' := [.ref 32]) rfl (fun _ => rfl) ?_
  refine pw_getR (b := 33) I E (c := 16) (k := 0) (pc' := 4) rfl rfl rfl rfl rfl rfl rfl ?_
  refine pw_ld E (pc' := 5) (st' := [pw_i k, .ref 33]) rfl (fun _ => rfl) ?_
  refine pw_ld E (pc' := 6) (st' := [pw_i ((-1)), pw_i k, .ref 33]) rfl (fun _ => rfl) ?_
  refine pw_ast0 I E (c := 17) (pc' := 7) rfl rfl rfl (by decide) rfl (by decide) (by omega) (by omega) rfl (by omega) (by omega) (by omega) (by omega) rfl ?_
  intro h1I h1E
  generalize h1w : pw_w h 17 (k.toNat) (pw_i ((-1))) = h1 at h1I h1E ⊢
  have h1F := E0.tr (h1E.wk (W' := [17]) (by first | rfl | simp))
  refine pw_vret E rfl ?_
  exact ⟨h1I, h1F, rfl⟩
set_option maxHeartbeats 4000000 in
theorem cm_84 {X : List (Nat × List Value)} {d : Nat} {h : pm_H} (hd : 1 ≤ d) (I : pw_I h) (sd : Int) (hsd1 : (-2147483648) ≤ sd) (hsd2 : sd ≤ 2147483647) : pw X d h 84 0 [some (.ref 32), some (pw_i sd), none, none] [] (fun h' v => h = h' ∧ ∃ a : Int, v = .inl (some (pw_i a)) ∧ 0 ≤ a ∧ a ≤ 24) := by
  have E : pm_ent 84 = some (2, 4, 8, 0, pmc_84) := rfl
  refine pw_ld E (pc' := 1) (st' := [pw_i 0]) rfl (fun _ => rfl) ?_
  refine pw_istn E (pc' := 2) (ls' := [some (.ref 32), some (pw_i sd), some (pw_i 0), none]) rfl rfl rfl rfl ?_
  refine pw_ld E (pc' := 3) (st' := [pw_i 0]) rfl (fun _ => rfl) ?_
  refine pw_istn E (pc' := 4) (ls' := [some (.ref 32), some (pw_i sd), some (pw_i 0), some (pw_i 0)]) rfl rfl rfl rfl ?_
  have L4 : ∀ (n4 : Nat) (k4_2 : Int) (k4_3 : Int), 0 ≤ k4_2 → k4_2 ≤ 24 → 0 ≤ k4_3 → k4_3 ≤ 24 → k4_2 ≤ k4_3 → (24 - k4_3).toNat = n4 → pw X d h 84 4 [some (.ref 32), some (pw_i sd), some (pw_i k4_2), some (pw_i k4_3)] [] (fun h' v => h = h' ∧ ∃ a : Int, v = .inl (some (pw_i a)) ∧ 0 ≤ a ∧ a ≤ 24) := by
    intro n4
    induction n4 using Nat.strongRecOn with
    | ind n4 ih4 =>
      intro k4_2 k4_3 k4_2a k4_2b k4_3a k4_3b hx4_0 hm4
      refine pw_ld E (pc' := 5) (st' := [pw_i k4_3]) rfl (fun _ => rfl) ?_
      refine pw_bip E (pc' := 7) rfl rfl (by decide) ?_
      refine pw_if2 E (pc' := 34) rfl (by decide) (by omega) (by omega) (by decide) (by decide) ?_ ?_
      · intro hc1
        change (24 : Int) ≤ k4_3 at hc1
        refine pw_ld E (pc' := 35) (st' := [pw_i k4_2]) rfl (fun _ => rfl) ?_
        refine pw_iret E rfl ?_
        exact ⟨rfl, ⟨_, rfl, by omega, by omega⟩⟩
      · intro hc2
        change ¬ ((24 : Int) ≤ k4_3) at hc2
        refine pw_ld E (pc' := 11) (st' := [pw_i k4_2]) rfl (fun _ => rfl) ?_
        refine pw_ld E (pc' := 12) (st' := [.ref 32, pw_i k4_2]) rfl (fun _ => rfl) ?_
        refine pw_getR (b := 33) I E (c := 16) (k := 0) (pc' := 15) rfl rfl rfl rfl rfl rfl rfl ?_
        refine pw_ld E (pc' := 16) (st' := [pw_i k4_3, .ref 33, pw_i k4_2]) rfl (fun _ => rfl) ?_
        refine pw_ald2 I E (c := 17) (pc' := 17) rfl rfl rfl (by decide) rfl (by decide) (by omega) (by omega) rfl (fun hf3a hf3b => ?_)
        refine pw_ld E (pc' := 18) (st' := [pw_i sd, pw_i (pw_g h 17 (k4_3.toNat)), pw_i k4_2]) rfl (fun _ => rfl) ?_
        refine pw_if2 E (pc' := 25) rfl (by decide) (by omega) (by omega) (by omega) (by omega) ?_ ?_
        · intro hc4
          change pw_g h 17 (k4_3.toNat) ≠ sd at hc4
          refine pw_ld E (pc' := 26) (st' := [pw_i 0, pw_i k4_2]) rfl (fun _ => rfl) ?_
          refine pw_add E (pc' := 27) rfl rfl ?_
          refine pw_istn E (pc' := 28) (ls' := [some (.ref 32), some (pw_i sd), some (pw_i (k4_2 + 0)), some (pw_i k4_3)]) rfl rfl rfl rfl ?_
          refine pw_inc E (pc' := 31) (ls' := [some (.ref 32), some (pw_i sd), some (pw_i (k4_2 + 0)), some (pw_i (k4_3 + 1))]) rfl rfl rfl rfl ?_
          refine pw_goto E (pc' := 4) rfl (by decide) ?_
          exact ih4 _ (by omega) (k4_2 + 0) (k4_3 + 1)  (by omega) (by omega) (by omega) (by omega) (by omega) rfl
        · intro hc5
          change ¬ (pw_g h 17 (k4_3.toNat) ≠ sd) at hc5
          refine pw_ld E (pc' := 22) (st' := [pw_i 1, pw_i k4_2]) rfl (fun _ => rfl) ?_
          refine pw_goto E (pc' := 26) rfl (by decide) ?_
          refine pw_add E (pc' := 27) rfl rfl ?_
          refine pw_istn E (pc' := 28) (ls' := [some (.ref 32), some (pw_i sd), some (pw_i (k4_2 + 1)), some (pw_i k4_3)]) rfl rfl rfl rfl ?_
          refine pw_inc E (pc' := 31) (ls' := [some (.ref 32), some (pw_i sd), some (pw_i (k4_2 + 1)), some (pw_i (k4_3 + 1))]) rfl rfl rfl rfl ?_
          refine pw_goto E (pc' := 4) rfl (by decide) ?_
          exact ih4 _ (by omega) (k4_2 + 1) (k4_3 + 1)  (by omega) (by omega) (by omega) (by omega) (by omega) rfl
  exact L4 _ (0) (0)  (by omega) (by omega) (by omega) (by omega) (by omega) rfl
set_option maxHeartbeats 4000000 in
theorem cm_85 {X : List (Nat × List Value)} {d : Nat} {h : pm_H} (hd : 1 ≤ d) (I : pw_I h) (sd : Int) (hsd1 : (-2147483648) ≤ sd) (hsd2 : sd ≤ 2147483647) : pw X d h 85 0 [some (.ref 32), some (pw_i sd), none, none] [] (fun h' v => h = h' ∧ ∃ a : Int, v = .inl (some (pw_i a)) ∧ (-2147483648) ≤ a ∧ a ≤ 2147483647) := by
  have E : pm_ent 85 = some (2, 4, 8, 0, pmc_85) := rfl
  refine pw_ld E (pc' := 1) (st' := [pw_i 0]) rfl (fun _ => rfl) ?_
  refine pw_istn E (pc' := 2) (ls' := [some (.ref 32), some (pw_i sd), some (pw_i 0), none]) rfl rfl rfl rfl ?_
  refine pw_ld E (pc' := 3) (st' := [pw_i 0]) rfl (fun _ => rfl) ?_
  refine pw_istn E (pc' := 4) (ls' := [some (.ref 32), some (pw_i sd), some (pw_i 0), some (pw_i 0)]) rfl rfl rfl rfl ?_
  have L4 : ∀ (n4 : Nat) (k4_2 : Int) (k4_3 : Int), (-2147483648) ≤ k4_2 → k4_2 ≤ 2147483647 → 0 ≤ k4_3 → k4_3 ≤ 24 → (24 - k4_3).toNat = n4 → pw X d h 85 4 [some (.ref 32), some (pw_i sd), some (pw_i k4_2), some (pw_i k4_3)] [] (fun h' v => h = h' ∧ ∃ a : Int, v = .inl (some (pw_i a)) ∧ (-2147483648) ≤ a ∧ a ≤ 2147483647) := by
    intro n4
    induction n4 using Nat.strongRecOn with
    | ind n4 ih4 =>
      intro k4_2 k4_3 k4_2a k4_2b k4_3a k4_3b hm4
      refine pw_ld E (pc' := 5) (st' := [pw_i k4_3]) rfl (fun _ => rfl) ?_
      refine pw_bip E (pc' := 7) rfl rfl (by decide) ?_
      refine pw_if2 E (pc' := 39) rfl (by decide) (by omega) (by omega) (by decide) (by decide) ?_ ?_
      · intro hc1
        change (24 : Int) ≤ k4_3 at hc1
        refine pw_ld E (pc' := 40) (st' := [pw_i k4_2]) rfl (fun _ => rfl) ?_
        refine pw_iret E rfl ?_
        exact ⟨rfl, ⟨_, rfl, by omega, by omega⟩⟩
      · intro hc2
        change ¬ ((24 : Int) ≤ k4_3) at hc2
        refine pw_ld E (pc' := 11) (st' := [pw_i k4_2]) rfl (fun _ => rfl) ?_
        refine pw_ld E (pc' := 12) (st' := [.ref 32, pw_i k4_2]) rfl (fun _ => rfl) ?_
        refine pw_getR (b := 33) I E (c := 16) (k := 0) (pc' := 15) rfl rfl rfl rfl rfl rfl rfl ?_
        refine pw_ld E (pc' := 16) (st' := [pw_i k4_3, .ref 33, pw_i k4_2]) rfl (fun _ => rfl) ?_
        refine pw_ald2 I E (c := 17) (pc' := 17) rfl rfl rfl (by decide) rfl (by decide) (by omega) (by omega) rfl (fun hf3a hf3b => ?_)
        refine pw_ld E (pc' := 18) (st' := [pw_i sd, pw_i (pw_g h 17 (k4_3.toNat)), pw_i k4_2]) rfl (fun _ => rfl) ?_
        refine pw_if2 E (pc' := 30) rfl (by decide) (by omega) (by omega) (by omega) (by omega) ?_ ?_
        · intro hc4
          change pw_g h 17 (k4_3.toNat) ≠ sd at hc4
          refine pw_ld E (pc' := 31) (st' := [pw_i 0, pw_i k4_2]) rfl (fun _ => rfl) ?_
          refine pw_add E (pc' := 32) rfl rfl ?_
          refine pw_istn E (pc' := 33) (ls' := [some (.ref 32), some (pw_i sd), some (pw_i (k4_2 + 0)), some (pw_i k4_3)]) rfl rfl rfl rfl ?_
          refine pw_inc E (pc' := 36) (ls' := [some (.ref 32), some (pw_i sd), some (pw_i (k4_2 + 0)), some (pw_i (k4_3 + 1))]) rfl rfl rfl rfl ?_
          refine pw_goto E (pc' := 4) rfl (by decide) ?_
          exact ih4 _ (by omega) (k4_2 + 0) (k4_3 + 1)  (by omega) (by omega) (by omega) (by omega)  rfl
        · intro hc5
          change ¬ (pw_g h 17 (k4_3.toNat) ≠ sd) at hc5
          refine pw_ld E (pc' := 22) (st' := [.ref 32, pw_i k4_2]) rfl (fun _ => rfl) ?_
          refine pw_getR (b := 34) I E (c := 16) (k := 1) (pc' := 25) rfl rfl rfl rfl rfl rfl rfl ?_
          refine pw_ld E (pc' := 26) (st' := [pw_i k4_3, .ref 34, pw_i k4_2]) rfl (fun _ => rfl) ?_
          refine pw_ald2 I E (c := 18) (pc' := 27) rfl rfl rfl (by decide) rfl (by decide) (by omega) (by omega) rfl (fun hf6a hf6b => ?_)
          refine pw_goto E (pc' := 31) rfl (by decide) ?_
          refine pw_add E (pc' := 32) rfl rfl ?_
          refine pw_nm (fun x7 hx7a hx7b => ?_)
          refine pw_istn E (pc' := 33) (ls' := [some (.ref 32), some (pw_i sd), some (pw_i x7), some (pw_i k4_3)]) rfl rfl rfl rfl ?_
          refine pw_inc E (pc' := 36) (ls' := [some (.ref 32), some (pw_i sd), some (pw_i x7), some (pw_i (k4_3 + 1))]) rfl rfl rfl rfl ?_
          refine pw_goto E (pc' := 4) rfl (by decide) ?_
          exact ih4 _ (by omega) (x7) (k4_3 + 1)  (by omega) (by omega) (by omega) (by omega)  rfl
  exact L4 _ (0) (0)  (by omega) (by omega) (by omega) (by omega)  rfl
set_option maxHeartbeats 4000000 in
theorem cm_86 {X : List (Nat × List Value)} {d : Nat} {h : pm_H} (hd : 2 ≤ d) (I : pw_I h)  : pw X d h 86 0 [some (.ref 32)] [] (fun h' v => h = h' ∧ ∃ a : Int, v = .inl (some (pw_i a)) ∧ 0 ≤ a ∧ a ≤ 1) := by
  have E : pm_ent 86 = some (1, 1, 8, 1, pmc_86) := rfl
  refine pw_ld E (pc' := 1) (st' := [.ref 32]) rfl (fun _ => rfl) ?_
  refine pw_ld E (pc' := 2) (st' := [pw_i 0, .ref 32]) rfl (fun _ => rfl) ?_
  obtain ⟨f1l, f1h, -⟩ := pw_obj (c := 16) I rfl
  refine pw_call (m' := 84) (As := [.ref 32, pw_i 0]) (rest := []) (ls'' := [some (.ref 32), some (pw_i 0), none, none]) (Nat.le_trans (by decide) hd) E rfl (fun _ => pw_iV rfl rfl rfl rfl (pw_cellI f1h rfl)) (rfl : pm_ent 84 = some (2, 4, 8, 0, pmc_84)) rfl rfl (cm_84 (pw_dp hd (by decide)) I (0) (by omega) (by omega)) ?_
  rintro u3 v2 ⟨rfl, x4, rfl, hx4a, hx4b⟩
  refine ⟨_, rfl, ?_⟩
  show pw X d h 86 5 [some (.ref 32)] [pw_i x4] _
  refine pw_if E (pc' := 16) rfl (by decide) (by omega) (by omega) ?_ ?_
  · intro hc5
    change x4 = (0 : Int) at hc5
    refine pw_ld E (pc' := 17) (st' := [pw_i 1]) rfl (fun _ => rfl) ?_
    refine pw_goto E (pc' := 21) rfl (by decide) ?_
    refine pw_zret E rfl (by omega) ?_
    exact ⟨rfl, ⟨_, rfl, by omega, by omega⟩⟩
  · intro hc6
    change ¬ (x4 = (0 : Int)) at hc6
    refine pw_ld E (pc' := 9) (st' := [.ref 32]) rfl (fun _ => rfl) ?_
    refine pw_ld E (pc' := 10) (st' := [pw_i 1, .ref 32]) rfl (fun _ => rfl) ?_
    obtain ⟨f7l, f7h, -⟩ := pw_obj (c := 16) I rfl
    refine pw_call (m' := 84) (As := [.ref 32, pw_i 1]) (rest := []) (ls'' := [some (.ref 32), some (pw_i 1), none, none]) (Nat.le_trans (by decide) hd) E rfl (fun _ => pw_iV rfl rfl rfl rfl (pw_cellI f7h rfl)) (rfl : pm_ent 84 = some (2, 4, 8, 0, pmc_84)) rfl rfl (cm_84 (pw_dp hd (by decide)) I (1) (by omega) (by omega)) ?_
    rintro u9 v8 ⟨rfl, x10, rfl, hx10a, hx10b⟩
    refine ⟨_, rfl, ?_⟩
    show pw X d h 86 13 [some (.ref 32)] [pw_i x10] _
    refine pw_if E (pc' := 20) rfl (by decide) (by omega) (by omega) ?_ ?_
    · intro hc11
      change x10 ≠ (0 : Int) at hc11
      refine pw_ld E (pc' := 21) (st' := [pw_i 0]) rfl (fun _ => rfl) ?_
      refine pw_zret E rfl (by omega) ?_
      exact ⟨rfl, ⟨_, rfl, by omega, by omega⟩⟩
    · intro hc12
      change ¬ (x10 ≠ (0 : Int)) at hc12
      refine pw_ld E (pc' := 17) (st' := [pw_i 1]) rfl (fun _ => rfl) ?_
      refine pw_goto E (pc' := 21) rfl (by decide) ?_
      refine pw_zret E rfl (by omega) ?_
      exact ⟨rfl, ⟨_, rfl, by omega, by omega⟩⟩
set_option maxHeartbeats 4000000 in
theorem cm_83 {X : List (Nat × List Value)} {d : Nat} {h : pm_H} (hd : 3 ≤ d) (I : pw_I h) (c : Nat) (hc : pw_Fr c) : pw X d h 83 0 [some (.ref 32), some (.ref (16 + c)), none, none, none, none] [] (fun h' v => pw_I h' ∧ pw_E [c] h h' ∧ ∃ a : Int, v = .inl (some (pw_i a)) ∧ 0 ≤ a ∧ a ≤ 1) := by
  have E : pm_ent 83 = some (2, 6, 8, 1, pmc_83) := rfl
  have E0 : pw_E [c] h h := pw_E.rf _ _
  refine pw_ld E (pc' := 1) (st' := [.ref 32]) rfl (fun _ => rfl) ?_
  refine pw_ld E (pc' := 2) (st' := [pw_i 0, .ref 32]) rfl (fun _ => rfl) ?_
  obtain ⟨f1l, f1h, -⟩ := pw_obj (c := 16) I rfl
  refine pw_call (m' := 84) (As := [.ref 32, pw_i 0]) (rest := []) (ls'' := [some (.ref 32), some (pw_i 0), none, none]) (Nat.le_trans (by decide) hd) E rfl (fun _ => pw_iV rfl rfl rfl rfl (pw_cellI f1h rfl)) (rfl : pm_ent 84 = some (2, 4, 8, 0, pmc_84)) rfl rfl (cm_84 (pw_dp hd (by decide)) I (0) (by omega) (by omega)) ?_
  rintro u3 v2 ⟨rfl, x4, rfl, hx4a, hx4b⟩
  refine ⟨_, rfl, ?_⟩
  show pw X d h 83 5 [some (.ref 32), some (.ref (16 + c)), none, none, none, none] [pw_i x4] _
  refine pw_ld E (pc' := 6) (st' := [.long ((Int32.ofInt x4).toInt64)]) rfl (fun _ => rfl) ?_
  refine pw_lstn E (pc' := 7) (ls' := [some (.ref 32), some (.ref (16 + c)), some (.long ((Int32.ofInt x4).toInt64)), none, none, none]) rfl rfl rfl rfl ?_
  refine pw_ld E (pc' := 8) (st' := [.ref 32]) rfl (fun _ => rfl) ?_
  refine pw_ld E (pc' := 9) (st' := [pw_i 1, .ref 32]) rfl (fun _ => rfl) ?_
  obtain ⟨f5l, f5h, -⟩ := pw_obj (c := 16) I rfl
  refine pw_call (m' := 84) (As := [.ref 32, pw_i 1]) (rest := []) (ls'' := [some (.ref 32), some (pw_i 1), none, none]) (Nat.le_trans (by decide) hd) E rfl (fun _ => pw_iV rfl rfl rfl rfl (pw_cellI f5h rfl)) (rfl : pm_ent 84 = some (2, 4, 8, 0, pmc_84)) rfl rfl (cm_84 (pw_dp hd (by decide)) I (1) (by omega) (by omega)) ?_
  rintro u7 v6 ⟨rfl, x8, rfl, hx8a, hx8b⟩
  refine ⟨_, rfl, ?_⟩
  show pw X d h 83 12 [some (.ref 32), some (.ref (16 + c)), some (.long ((Int32.ofInt x4).toInt64)), none, none, none] [pw_i x8] _
  refine pw_ld E (pc' := 13) (st' := [.long ((Int32.ofInt x8).toInt64)]) rfl (fun _ => rfl) ?_
  refine pw_lst E (pc' := 15) (ls' := [some (.ref 32), some (.ref (16 + c)), some (.long ((Int32.ofInt x4).toInt64)), none, some (.long ((Int32.ofInt x8).toInt64)), none]) rfl rfl rfl rfl ?_
  refine pw_ld E (pc' := 16) (st' := [.long ((Int32.ofInt x4).toInt64)]) rfl (fun _ => rfl) ?_
  refine pw_ld E (pc' := 17) (st' := [.long (Int64.ofNat 0), .long ((Int32.ofInt x4).toInt64)]) rfl (fun _ => rfl) ?_
  refine pw_lcmp E (pc' := 18) rfl rfl (fun c9 hc9 => ?_)
  refine pw_if E (pc' := 28) rfl (by decide) (by omega) (by omega) ?_ ?_
  · intro hc10
    change c9 = (0 : Int) at hc10
    refine pw_ld E (pc' := 29) (st' := [pw_i 0]) rfl (fun _ => rfl) ?_
    refine pw_zret E rfl (by omega) ?_
    exact ⟨I, E0, ⟨_, rfl, by omega, by omega⟩⟩
  · intro hc11
    change ¬ (c9 = (0 : Int)) at hc11
    refine pw_ld E (pc' := 23) (st' := [.long ((Int32.ofInt x8).toInt64)]) rfl (fun _ => rfl) ?_
    refine pw_ld E (pc' := 24) (st' := [.long (Int64.ofNat 0), .long ((Int32.ofInt x8).toInt64)]) rfl (fun _ => rfl) ?_
    refine pw_lcmp E (pc' := 25) rfl rfl (fun c12 hc12 => ?_)
    refine pw_if E (pc' := 30) rfl (by decide) (by omega) (by omega) ?_ ?_
    · intro hc13
      change c12 ≠ (0 : Int) at hc13
      refine pw_ld E (pc' := 31) (st' := [.ref (16 + c)]) rfl (fun _ => rfl) ?_
      refine pw_ld E (pc' := 32) (st' := [.ref 32, .ref (16 + c)]) rfl (fun _ => rfl) ?_
      refine pw_ld E (pc' := 33) (st' := [pw_i 0, .ref 32, .ref (16 + c)]) rfl (fun _ => rfl) ?_
      obtain ⟨f14l, f14h, -⟩ := pw_obj (c := 16) I rfl
      refine pw_call (m' := 85) (As := [.ref 32, pw_i 0]) (rest := [.ref (16 + c)]) (ls'' := [some (.ref 32), some (pw_i 0), none, none]) (Nat.le_trans (by decide) hd) E rfl (fun _ => pw_iV rfl rfl rfl rfl (pw_cellI f14h rfl)) (rfl : pm_ent 85 = some (2, 4, 8, 0, pmc_85)) rfl rfl (cm_85 (pw_dp hd (by decide)) I (0) (by omega) (by omega)) ?_
      rintro u16 v15 ⟨rfl, x17, rfl, hx17a, hx17b⟩
      refine ⟨_, rfl, ?_⟩
      show pw X d h 83 36 [some (.ref 32), some (.ref (16 + c)), some (.long ((Int32.ofInt x4).toInt64)), none, some (.long ((Int32.ofInt x8).toInt64)), none] [pw_i x17, .ref (16 + c)] _
      refine pw_ld E (pc' := 37) (st' := [.long ((Int32.ofInt x17).toInt64), .ref (16 + c)]) rfl (fun _ => rfl) ?_
      refine pw_ld E (pc' := 39) (st' := [.long ((Int32.ofInt x8).toInt64), .long ((Int32.ofInt x17).toInt64), .ref (16 + c)]) rfl (fun _ => rfl) ?_
      refine pw_ld E (pc' := 40) (st' := [.long (((Int32.ofInt x17).toInt64) * ((Int32.ofInt x8).toInt64)), .ref (16 + c)]) rfl (fun _ => rfl) ?_
      refine pw_ld E (pc' := 41) (st' := [.ref 32, .long (((Int32.ofInt x17).toInt64) * ((Int32.ofInt x8).toInt64)), .ref (16 + c)]) rfl (fun _ => rfl) ?_
      refine pw_ld E (pc' := 42) (st' := [pw_i 1, .ref 32, .long (((Int32.ofInt x17).toInt64) * ((Int32.ofInt x8).toInt64)), .ref (16 + c)]) rfl (fun _ => rfl) ?_
      obtain ⟨f18l, f18h, -⟩ := pw_obj (c := 16) I rfl
      refine pw_call (m' := 85) (As := [.ref 32, pw_i 1]) (rest := [.long (((Int32.ofInt x17).toInt64) * ((Int32.ofInt x8).toInt64)), .ref (16 + c)]) (ls'' := [some (.ref 32), some (pw_i 1), none, none]) (Nat.le_trans (by decide) hd) E rfl (fun _ => pw_iV rfl rfl rfl rfl (pw_cellI f18h rfl)) (rfl : pm_ent 85 = some (2, 4, 8, 0, pmc_85)) rfl rfl (cm_85 (pw_dp hd (by decide)) I (1) (by omega) (by omega)) ?_
      rintro u20 v19 ⟨rfl, x21, rfl, hx21a, hx21b⟩
      refine ⟨_, rfl, ?_⟩
      show pw X d h 83 45 [some (.ref 32), some (.ref (16 + c)), some (.long ((Int32.ofInt x4).toInt64)), none, some (.long ((Int32.ofInt x8).toInt64)), none] [pw_i x21, .long (((Int32.ofInt x17).toInt64) * ((Int32.ofInt x8).toInt64)), .ref (16 + c)] _
      refine pw_ld E (pc' := 46) (st' := [.long ((Int32.ofInt x21).toInt64), .long (((Int32.ofInt x17).toInt64) * ((Int32.ofInt x8).toInt64)), .ref (16 + c)]) rfl (fun _ => rfl) ?_
      refine pw_ld E (pc' := 47) (st' := [.long ((Int32.ofInt x4).toInt64), .long ((Int32.ofInt x21).toInt64), .long (((Int32.ofInt x17).toInt64) * ((Int32.ofInt x8).toInt64)), .ref (16 + c)]) rfl (fun _ => rfl) ?_
      refine pw_ld E (pc' := 48) (st' := [.long (((Int32.ofInt x21).toInt64) * ((Int32.ofInt x4).toInt64)), .long (((Int32.ofInt x17).toInt64) * ((Int32.ofInt x8).toInt64)), .ref (16 + c)]) rfl (fun _ => rfl) ?_
      refine pw_ld E (pc' := 49) (st' := [.long ((((Int32.ofInt x17).toInt64) * ((Int32.ofInt x8).toInt64)) - (((Int32.ofInt x21).toInt64) * ((Int32.ofInt x4).toInt64))), .ref (16 + c)]) rfl (fun _ => rfl) ?_
      refine pw_ld E (pc' := 50) (st' := [.long ((Int32.ofInt x4).toInt64), .long ((((Int32.ofInt x17).toInt64) * ((Int32.ofInt x8).toInt64)) - (((Int32.ofInt x21).toInt64) * ((Int32.ofInt x4).toInt64))), .ref (16 + c)]) rfl (fun _ => rfl) ?_
      refine pw_ld E (pc' := 52) (st' := [.long ((Int32.ofInt x8).toInt64), .long ((Int32.ofInt x4).toInt64), .long ((((Int32.ofInt x17).toInt64) * ((Int32.ofInt x8).toInt64)) - (((Int32.ofInt x21).toInt64) * ((Int32.ofInt x4).toInt64))), .ref (16 + c)]) rfl (fun _ => rfl) ?_
      refine pw_ld E (pc' := 53) (st' := [.long (((Int32.ofInt x4).toInt64) * ((Int32.ofInt x8).toInt64)), .long ((((Int32.ofInt x17).toInt64) * ((Int32.ofInt x8).toInt64)) - (((Int32.ofInt x21).toInt64) * ((Int32.ofInt x4).toInt64))), .ref (16 + c)]) rfl (fun _ => rfl) ?_
      obtain ⟨f22l, f22h, -⟩ := pw_obj (c := c) I (pw_Fr_o hc)
      refine pw_call (m' := 6) (As := [.ref (16 + c), .long ((((Int32.ofInt x17).toInt64) * ((Int32.ofInt x8).toInt64)) - (((Int32.ofInt x21).toInt64) * ((Int32.ofInt x4).toInt64))), .long (((Int32.ofInt x4).toInt64) * ((Int32.ofInt x8).toInt64))]) (rest := []) (ls'' := [some (.ref (16 + c)), some (.long ((((Int32.ofInt x17).toInt64) * ((Int32.ofInt x8).toInt64)) - (((Int32.ofInt x21).toInt64) * ((Int32.ofInt x4).toInt64)))), none, some (.long (((Int32.ofInt x4).toInt64) * ((Int32.ofInt x8).toInt64))), none, none, none]) (Nat.le_trans (by decide) hd) E rfl (fun _ => pw_iV rfl rfl rfl rfl (pw_cellI f22h rfl)) (rfl : pm_ent 6 = some (3, 7, 1, 4, pmc_6)) rfl rfl (cm_6 (pw_dp hd (by decide)) I c hc ((((Int32.ofInt x17).toInt64) * ((Int32.ofInt x8).toInt64)) - (((Int32.ofInt x21).toInt64) * ((Int32.ofInt x4).toInt64))) (((Int32.ofInt x4).toInt64) * ((Int32.ofInt x8).toInt64))) ?_
      rintro h23 v24 ⟨h23I, h23E, rfl⟩
      refine ⟨_, rfl, ?_⟩
      have h23F := E0.tr (h23E.wk (W' := [c]) (by first | rfl | simp))
      show pw X d h23 83 56 [some (.ref 32), some (.ref (16 + c)), some (.long ((Int32.ofInt x4).toInt64)), none, some (.long ((Int32.ofInt x8).toInt64)), none] [] _
      refine pw_ld E (pc' := 57) (st' := [pw_i 1]) rfl (fun _ => rfl) ?_
      refine pw_zret E rfl (by omega) ?_
      exact ⟨h23I, h23F, ⟨_, rfl, by omega, by omega⟩⟩
    · intro hc25
      change ¬ (c12 ≠ (0 : Int)) at hc25
      refine pw_ld E (pc' := 29) (st' := [pw_i 0]) rfl (fun _ => rfl) ?_
      refine pw_zret E rfl (by omega) ?_
      exact ⟨I, E0, ⟨_, rfl, by omega, by omega⟩⟩
set_option maxHeartbeats 4000000 in
theorem cm_92 {X : List (Nat × List Value)} {d : Nat} {h : pm_H} (hd : 1 ≤ d) (I : pw_I h) (sd : Int) (hsd1 : (-2147483648) ≤ sd) (hsd2 : sd ≤ 2147483647) : pw X d h 92 0 [some (.ref 32), some (pw_i sd), none, none] [] (fun h' v => pw_I h' ∧ pw_E [19] h h' ∧ ∃ a : Int, v = .inl (some (pw_i a)) ∧ 0 ≤ a ∧ a ≤ 24) := by
  have E : pm_ent 92 = some (2, 4, 8, 0, pmc_92) := rfl
  have E0 : pw_E [19] h h := pw_E.rf _ _
  refine pw_ld E (pc' := 1) (st' := [pw_i 0]) rfl (fun _ => rfl) ?_
  refine pw_istn E (pc' := 2) (ls' := [some (.ref 32), some (pw_i sd), some (pw_i 0), none]) rfl rfl rfl rfl ?_
  refine pw_ld E (pc' := 3) (st' := [pw_i 0]) rfl (fun _ => rfl) ?_
  refine pw_istn E (pc' := 4) (ls' := [some (.ref 32), some (pw_i sd), some (pw_i 0), some (pw_i 0)]) rfl rfl rfl rfl ?_
  have L4 : ∀ (n4 : Nat) (k4_2 : Int) (k4_3 : Int) (h4 : pm_H), pw_I h4 → pw_E [19] h h4 → 0 ≤ k4_2 → k4_2 ≤ 24 → 0 ≤ k4_3 → k4_3 ≤ 24 → k4_2 ≤ k4_3 → (24 - k4_3).toNat = n4 → pw X d h4 92 4 [some (.ref 32), some (pw_i sd), some (pw_i k4_2), some (pw_i k4_3)] [] (fun h' v => pw_I h' ∧ pw_E [19] h h' ∧ ∃ a : Int, v = .inl (some (pw_i a)) ∧ 0 ≤ a ∧ a ≤ 24) := by
    intro n4
    induction n4 using Nat.strongRecOn with
    | ind n4 ih4 =>
      intro k4_2 k4_3 h4 I4 E4 k4_2a k4_2b k4_3a k4_3b hx4_0 hm4
      refine pw_ld E (pc' := 5) (st' := [pw_i k4_3]) rfl (fun _ => rfl) ?_
      refine pw_bip E (pc' := 7) rfl rfl (by decide) ?_
      refine pw_if2 E (pc' := 41) rfl (by decide) (by omega) (by omega) (by decide) (by decide) ?_ ?_
      · intro hc1
        change (24 : Int) ≤ k4_3 at hc1
        refine pw_ld E (pc' := 42) (st' := [pw_i k4_2]) rfl (fun _ => rfl) ?_
        refine pw_iret E rfl ?_
        exact ⟨I4, E4, ⟨_, rfl, by omega, by omega⟩⟩
      · intro hc2
        change ¬ ((24 : Int) ≤ k4_3) at hc2
        refine pw_ld E (pc' := 11) (st' := [.ref 32]) rfl (fun _ => rfl) ?_
        refine pw_getR (b := 33) I4 E (c := 16) (k := 0) (pc' := 14) rfl rfl rfl rfl rfl rfl rfl ?_
        refine pw_ld E (pc' := 15) (st' := [pw_i k4_3, .ref 33]) rfl (fun _ => rfl) ?_
        refine pw_ald2 I4 E (c := 17) (pc' := 16) rfl rfl rfl (by decide) rfl (by decide) (by omega) (by omega) rfl (fun hf3a hf3b => ?_)
        refine pw_ld E (pc' := 17) (st' := [pw_i sd, pw_i (pw_g h4 17 (k4_3.toNat))]) rfl (fun _ => rfl) ?_
        refine pw_if2 E (pc' := 35) rfl (by decide) (by omega) (by omega) (by omega) (by omega) ?_ ?_
        · intro hc4
          change pw_g h4 17 (k4_3.toNat) ≠ sd at hc4
          refine pw_inc E (pc' := 38) (ls' := [some (.ref 32), some (pw_i sd), some (pw_i k4_2), some (pw_i (k4_3 + 1))]) rfl rfl rfl rfl ?_
          refine pw_goto E (pc' := 4) rfl (by decide) ?_
          exact ih4 _ (by omega) (k4_2) (k4_3 + 1) h4 I4 E4 (by omega) (by omega) (by omega) (by omega) (by omega) rfl
        · intro hc5
          change ¬ (pw_g h4 17 (k4_3.toNat) ≠ sd) at hc5
          refine pw_ld E (pc' := 21) (st' := [.ref 32]) rfl (fun _ => rfl) ?_
          refine pw_getR (b := 35) I4 E (c := 16) (k := 2) (pc' := 24) rfl rfl rfl rfl rfl rfl rfl ?_
          refine pw_ld E (pc' := 25) (st' := [pw_i k4_2, .ref 35]) rfl (fun _ => rfl) ?_
          refine pw_ld E (pc' := 26) (st' := [.ref 32, pw_i k4_2, .ref 35]) rfl (fun _ => rfl) ?_
          refine pw_getR (b := 34) I4 E (c := 16) (k := 1) (pc' := 29) rfl rfl rfl rfl rfl rfl rfl ?_
          refine pw_ld E (pc' := 30) (st' := [pw_i k4_3, .ref 34, pw_i k4_2, .ref 35]) rfl (fun _ => rfl) ?_
          refine pw_ald2 I4 E (c := 18) (pc' := 31) rfl rfl rfl (by decide) rfl (by decide) (by omega) (by omega) rfl (fun hf6a hf6b => ?_)
          refine pw_ast0 I4 E (c := 19) (pc' := 32) rfl rfl rfl (by decide) rfl (by decide) (by omega) (by omega) rfl (by omega) (by omega) (by omega) (by omega) rfl ?_
          intro h7I h7E
          generalize h7w : pw_w h4 19 (k4_2.toNat) (pw_i (pw_g h4 18 (k4_3.toNat))) = h7 at h7I h7E ⊢
          have h7F := E4.tr (h7E.wk (W' := [19]) (by first | rfl | simp))
          refine pw_inc E (pc' := 35) (ls' := [some (.ref 32), some (pw_i sd), some (pw_i (k4_2 + 1)), some (pw_i k4_3)]) rfl rfl rfl rfl ?_
          refine pw_inc E (pc' := 38) (ls' := [some (.ref 32), some (pw_i sd), some (pw_i (k4_2 + 1)), some (pw_i (k4_3 + 1))]) rfl rfl rfl rfl ?_
          refine pw_goto E (pc' := 4) rfl (by decide) ?_
          exact ih4 _ (by omega) (k4_2 + 1) (k4_3 + 1) h7 h7I h7F (by omega) (by omega) (by omega) (by omega) (by omega) rfl
  exact L4 _ (0) (0) h I E0 (by omega) (by omega) (by omega) (by omega) (by omega) rfl
set_option maxHeartbeats 4000000 in
theorem cm_88 {X : List (Nat × List Value)} {d : Nat} {h : pm_H} (hd : 1 ≤ d) (I : pw_I h)  : pw X d h 88 0 [some (.ref 32), none, none] [] (fun h' v => pw_I h' ∧ pw_E [19] h h' ∧ v = .inl none) := by
  have E : pm_ent 88 = some (1, 3, 8, 4, pmc_88) := rfl
  have E0 : pw_E [19] h h := pw_E.rf _ _
  refine pw_ld E (pc' := 1) (st' := [pw_i 0]) rfl (fun _ => rfl) ?_
  refine pw_istn E (pc' := 2) (ls' := [some (.ref 32), some (pw_i 0), none]) rfl rfl rfl rfl ?_
  refine pw_ld E (pc' := 3) (st' := [pw_i 0]) rfl (fun _ => rfl) ?_
  refine pw_istn E (pc' := 4) (ls' := [some (.ref 32), some (pw_i 0), some (pw_i 0)]) rfl rfl rfl rfl ?_
  have L4 : ∀ (n4 : Nat) (k4_1 : Int) (k4_2 : Int) (h4 : pm_H), pw_I h4 → pw_E [19] h h4 → 0 ≤ k4_1 → k4_1 ≤ 24 → 0 ≤ k4_2 → k4_2 ≤ 24 → k4_1 ≤ k4_2 → (24 - k4_2).toNat = n4 → pw X d h4 88 4 [some (.ref 32), some (pw_i k4_1), some (pw_i k4_2)] [] (fun h' v => pw_I h' ∧ pw_E [19] h h' ∧ v = .inl none) := by
    intro n4
    induction n4 using Nat.strongRecOn with
    | ind n4 ih4 =>
      intro k4_1 k4_2 h4 I4 E4 k4_1a k4_1b k4_2a k4_2b hx4_0 hm4
      refine pw_ld E (pc' := 5) (st' := [pw_i k4_2]) rfl (fun _ => rfl) ?_
      refine pw_bip E (pc' := 7) rfl rfl (by decide) ?_
      refine pw_if2 E (pc' := 41) rfl (by decide) (by omega) (by omega) (by decide) (by decide) ?_ ?_
      · intro hc1
        change (24 : Int) ≤ k4_2 at hc1
        refine pw_vret E rfl ?_
        exact ⟨I4, E4, rfl⟩
      · intro hc2
        change ¬ ((24 : Int) ≤ k4_2) at hc2
        refine pw_ld E (pc' := 11) (st' := [.ref 32]) rfl (fun _ => rfl) ?_
        refine pw_getR (b := 33) I4 E (c := 16) (k := 0) (pc' := 14) rfl rfl rfl rfl rfl rfl rfl ?_
        refine pw_ld E (pc' := 15) (st' := [pw_i k4_2, .ref 33]) rfl (fun _ => rfl) ?_
        refine pw_ald2 I4 E (c := 17) (pc' := 16) rfl rfl rfl (by decide) rfl (by decide) (by omega) (by omega) rfl (fun hf3a hf3b => ?_)
        refine pw_ld E (pc' := 17) (st' := [pw_i ((-1)), pw_i (pw_g h4 17 (k4_2.toNat))]) rfl (fun _ => rfl) ?_
        refine pw_if2 E (pc' := 35) rfl (by decide) (by omega) (by omega) (by decide) (by decide) ?_ ?_
        · intro hc4
          change pw_g h4 17 (k4_2.toNat) = ((-1) : Int) at hc4
          refine pw_inc E (pc' := 38) (ls' := [some (.ref 32), some (pw_i k4_1), some (pw_i (k4_2 + 1))]) rfl rfl rfl rfl ?_
          refine pw_goto E (pc' := 4) rfl (by decide) ?_
          exact ih4 _ (by omega) (k4_1) (k4_2 + 1) h4 I4 E4 (by omega) (by omega) (by omega) (by omega) (by omega) rfl
        · intro hc5
          change ¬ (pw_g h4 17 (k4_2.toNat) = ((-1) : Int)) at hc5
          refine pw_ld E (pc' := 21) (st' := [.ref 32]) rfl (fun _ => rfl) ?_
          refine pw_getR (b := 35) I4 E (c := 16) (k := 2) (pc' := 24) rfl rfl rfl rfl rfl rfl rfl ?_
          refine pw_ld E (pc' := 25) (st' := [pw_i k4_1, .ref 35]) rfl (fun _ => rfl) ?_
          refine pw_ld E (pc' := 26) (st' := [.ref 32, pw_i k4_1, .ref 35]) rfl (fun _ => rfl) ?_
          refine pw_getR (b := 34) I4 E (c := 16) (k := 1) (pc' := 29) rfl rfl rfl rfl rfl rfl rfl ?_
          refine pw_ld E (pc' := 30) (st' := [pw_i k4_2, .ref 34, pw_i k4_1, .ref 35]) rfl (fun _ => rfl) ?_
          refine pw_ald2 I4 E (c := 18) (pc' := 31) rfl rfl rfl (by decide) rfl (by decide) (by omega) (by omega) rfl (fun hf6a hf6b => ?_)
          refine pw_ast0 I4 E (c := 19) (pc' := 32) rfl rfl rfl (by decide) rfl (by decide) (by omega) (by omega) rfl (by omega) (by omega) (by omega) (by omega) rfl ?_
          intro h7I h7E
          generalize h7w : pw_w h4 19 (k4_1.toNat) (pw_i (pw_g h4 18 (k4_2.toNat))) = h7 at h7I h7E ⊢
          have h7F := E4.tr (h7E.wk (W' := [19]) (by first | rfl | simp))
          refine pw_inc E (pc' := 35) (ls' := [some (.ref 32), some (pw_i (k4_1 + 1)), some (pw_i k4_2)]) rfl rfl rfl rfl ?_
          refine pw_inc E (pc' := 38) (ls' := [some (.ref 32), some (pw_i (k4_1 + 1)), some (pw_i (k4_2 + 1))]) rfl rfl rfl rfl ?_
          refine pw_goto E (pc' := 4) rfl (by decide) ?_
          exact ih4 _ (by omega) (k4_1 + 1) (k4_2 + 1) h7 h7I h7F (by omega) (by omega) (by omega) (by omega) (by omega) rfl
  exact L4 _ (0) (0) h I E0 (by omega) (by omega) (by omega) (by omega) (by omega) rfl
set_option maxHeartbeats 4000000 in
theorem cm_89 {X : List (Nat × List Value)} {d : Nat} {h : pm_H} (hd : 1 ≤ d) (I : pw_I h) (mb : Int) (hmb1 : (-2147483648) ≤ mb) (hmb2 : mb ≤ 2147483647) : pw X d h 89 0 [some (.ref 32), some (pw_i mb), none, none] [] (fun h' v => h = h' ∧ ∃ a : Int, v = .inl (some (pw_i a)) ∧ (-2147483648) ≤ a ∧ a ≤ 2147483647) := by
  have E : pm_ent 89 = some (2, 4, 8, 0, pmc_89) := rfl
  refine pw_ld E (pc' := 1) (st' := [pw_i 0]) rfl (fun _ => rfl) ?_
  refine pw_istn E (pc' := 2) (ls' := [some (.ref 32), some (pw_i mb), some (pw_i 0), none]) rfl rfl rfl rfl ?_
  refine pw_ld E (pc' := 3) (st' := [pw_i 0]) rfl (fun _ => rfl) ?_
  refine pw_istn E (pc' := 4) (ls' := [some (.ref 32), some (pw_i mb), some (pw_i 0), some (pw_i 0)]) rfl rfl rfl rfl ?_
  have L4 : ∀ (n4 : Nat) (k4_2 : Int) (k4_3 : Int), (-2147483648) ≤ k4_2 → k4_2 ≤ 2147483647 → 0 ≤ k4_3 → k4_3 ≤ 14 → (14 - k4_3).toNat = n4 → pw X d h 89 4 [some (.ref 32), some (pw_i mb), some (pw_i k4_2), some (pw_i k4_3)] [] (fun h' v => h = h' ∧ ∃ a : Int, v = .inl (some (pw_i a)) ∧ (-2147483648) ≤ a ∧ a ≤ 2147483647) := by
    intro n4
    induction n4 using Nat.strongRecOn with
    | ind n4 ih4 =>
      intro k4_2 k4_3 k4_2a k4_2b k4_3a k4_3b hm4
      refine pw_ld E (pc' := 5) (st' := [pw_i k4_3]) rfl (fun _ => rfl) ?_
      refine pw_bip E (pc' := 7) rfl rfl (by decide) ?_
      refine pw_if2 E (pc' := 37) rfl (by decide) (by omega) (by omega) (by decide) (by decide) ?_ ?_
      · intro hc1
        change (14 : Int) ≤ k4_3 at hc1
        refine pw_ld E (pc' := 38) (st' := [pw_i k4_2]) rfl (fun _ => rfl) ?_
        refine pw_iret E rfl ?_
        exact ⟨rfl, ⟨_, rfl, by omega, by omega⟩⟩
      · intro hc2
        change ¬ ((14 : Int) ≤ k4_3) at hc2
        refine pw_ld E (pc' := 11) (st' := [pw_i k4_2]) rfl (fun _ => rfl) ?_
        refine pw_ld E (pc' := 12) (st' := [pw_i mb, pw_i k4_2]) rfl (fun _ => rfl) ?_
        refine pw_ld E (pc' := 13) (st' := [pw_i k4_3, pw_i mb, pw_i k4_2]) rfl (fun _ => rfl) ?_
        refine pw_ii (f := fun x y => x >>> (y &&& 31)) E (pc' := 14) rfl (fun _ => rfl) ?_
        intro x3 hx3a hx3b
        refine pw_ld E (pc' := 15) (st' := [pw_i 1, pw_i x3, pw_i k4_2]) rfl (fun _ => rfl) ?_
        refine pw_ii (f := fun x y => x &&& y) E (pc' := 16) rfl (fun _ => rfl) ?_
        intro x4 hx4a hx4b
        refine pw_if E (pc' := 28) rfl (by decide) (by omega) (by omega) ?_ ?_
        · intro hc5
          change x4 = (0 : Int) at hc5
          refine pw_ld E (pc' := 29) (st' := [pw_i 0, pw_i k4_2]) rfl (fun _ => rfl) ?_
          refine pw_add E (pc' := 30) rfl rfl ?_
          refine pw_istn E (pc' := 31) (ls' := [some (.ref 32), some (pw_i mb), some (pw_i (k4_2 + 0)), some (pw_i k4_3)]) rfl rfl rfl rfl ?_
          refine pw_inc E (pc' := 34) (ls' := [some (.ref 32), some (pw_i mb), some (pw_i (k4_2 + 0)), some (pw_i (k4_3 + 1))]) rfl rfl rfl rfl ?_
          refine pw_goto E (pc' := 4) rfl (by decide) ?_
          exact ih4 _ (by omega) (k4_2 + 0) (k4_3 + 1)  (by omega) (by omega) (by omega) (by omega)  rfl
        · intro hc6
          change ¬ (x4 = (0 : Int)) at hc6
          refine pw_ld E (pc' := 20) (st' := [.ref 32, pw_i k4_2]) rfl (fun _ => rfl) ?_
          refine pw_getR (b := 35) I E (c := 16) (k := 2) (pc' := 23) rfl rfl rfl rfl rfl rfl rfl ?_
          refine pw_ld E (pc' := 24) (st' := [pw_i k4_3, .ref 35, pw_i k4_2]) rfl (fun _ => rfl) ?_
          refine pw_ald2 I E (c := 19) (pc' := 25) rfl rfl rfl (by decide) rfl (by decide) (by omega) (by omega) rfl (fun hf7a hf7b => ?_)
          refine pw_goto E (pc' := 29) rfl (by decide) ?_
          refine pw_add E (pc' := 30) rfl rfl ?_
          refine pw_nm (fun x8 hx8a hx8b => ?_)
          refine pw_istn E (pc' := 31) (ls' := [some (.ref 32), some (pw_i mb), some (pw_i x8), some (pw_i k4_3)]) rfl rfl rfl rfl ?_
          refine pw_inc E (pc' := 34) (ls' := [some (.ref 32), some (pw_i mb), some (pw_i x8), some (pw_i (k4_3 + 1))]) rfl rfl rfl rfl ?_
          refine pw_goto E (pc' := 4) rfl (by decide) ?_
          exact ih4 _ (by omega) (x8) (k4_3 + 1)  (by omega) (by omega) (by omega) (by omega)  rfl
  exact L4 _ (0) (0)  (by omega) (by omega) (by omega) (by omega)  rfl
set_option maxHeartbeats 4000000 in
theorem cm_326 {X : List (Nat × List Value)} {d : Nat} {h : pm_H} (hd : 1 ≤ d) (I : pw_I h) (x : Int) (hx1 : (-2147483648) ≤ x) (hx2 : x ≤ 2147483647) : pw X d h 326 0 [some (pw_i x)] [] (fun h' v => h = h' ∧ ∃ a : Int, v = .inl (some (pw_i a)) ∧ (-2147483648) ≤ a ∧ a ≤ 2147483647) := by
  have E : pm_ent 326 = some (1, 1, 15, 0, pmc_326) := rfl
  refine pw_ld E (pc' := 1) (st' := [pw_i x]) rfl (fun _ => rfl) ?_
  refine pw_ld E (pc' := 2) (st' := [pw_i x, pw_i x]) rfl (fun _ => rfl) ?_
  refine pw_ld E (pc' := 3) (st' := [pw_i 1, pw_i x, pw_i x]) rfl (fun _ => rfl) ?_
  refine pw_ii (f := fun x y => (x.toUInt32 >>> (y.toUInt32 &&& Int32.toUInt32 31)).toInt32) E (pc' := 4) rfl (fun _ => rfl) ?_
  intro x1 hx1a hx1b
  refine pw_ldcw (a := 1431655765) E (pc' := 7) rfl rfl rfl (by decide) ?_
  refine pw_ii (f := fun x y => x &&& y) E (pc' := 8) rfl (fun _ => rfl) ?_
  intro x2 hx2a hx2b
  refine pw_sub E (pc' := 9) rfl rfl ?_
  refine pw_nm (fun x3 hx3a hx3b => ?_)
  refine pw_istn E (pc' := 10) (ls' := [some (pw_i x3)]) rfl rfl rfl rfl ?_
  refine pw_ld E (pc' := 11) (st' := [pw_i x3]) rfl (fun _ => rfl) ?_
  refine pw_ldcw (a := 858993459) E (pc' := 14) rfl rfl rfl (by decide) ?_
  refine pw_ii (f := fun x y => x &&& y) E (pc' := 15) rfl (fun _ => rfl) ?_
  intro x4 hx4a hx4b
  refine pw_ld E (pc' := 16) (st' := [pw_i x3, pw_i x4]) rfl (fun _ => rfl) ?_
  refine pw_ld E (pc' := 17) (st' := [pw_i 2, pw_i x3, pw_i x4]) rfl (fun _ => rfl) ?_
  refine pw_ii (f := fun x y => (x.toUInt32 >>> (y.toUInt32 &&& Int32.toUInt32 31)).toInt32) E (pc' := 18) rfl (fun _ => rfl) ?_
  intro x5 hx5a hx5b
  refine pw_ldcw (a := 858993459) E (pc' := 21) rfl rfl rfl (by decide) ?_
  refine pw_ii (f := fun x y => x &&& y) E (pc' := 22) rfl (fun _ => rfl) ?_
  intro x6 hx6a hx6b
  refine pw_add E (pc' := 23) rfl rfl ?_
  refine pw_nm (fun x7 hx7a hx7b => ?_)
  refine pw_istn E (pc' := 24) (ls' := [some (pw_i x7)]) rfl rfl rfl rfl ?_
  refine pw_ld E (pc' := 25) (st' := [pw_i x7]) rfl (fun _ => rfl) ?_
  refine pw_ld E (pc' := 26) (st' := [pw_i x7, pw_i x7]) rfl (fun _ => rfl) ?_
  refine pw_ld E (pc' := 27) (st' := [pw_i 4, pw_i x7, pw_i x7]) rfl (fun _ => rfl) ?_
  refine pw_ii (f := fun x y => (x.toUInt32 >>> (y.toUInt32 &&& Int32.toUInt32 31)).toInt32) E (pc' := 28) rfl (fun _ => rfl) ?_
  intro x8 hx8a hx8b
  refine pw_add E (pc' := 29) rfl rfl ?_
  refine pw_nm (fun x9 hx9a hx9b => ?_)
  refine pw_ldcw (a := 252645135) E (pc' := 32) rfl rfl rfl (by decide) ?_
  refine pw_ii (f := fun x y => x &&& y) E (pc' := 33) rfl (fun _ => rfl) ?_
  intro x10 hx10a hx10b
  refine pw_istn E (pc' := 34) (ls' := [some (pw_i x10)]) rfl rfl rfl rfl ?_
  refine pw_ld E (pc' := 35) (st' := [pw_i x10]) rfl (fun _ => rfl) ?_
  refine pw_ld E (pc' := 36) (st' := [pw_i x10, pw_i x10]) rfl (fun _ => rfl) ?_
  refine pw_bip E (pc' := 38) rfl rfl (by decide) ?_
  refine pw_ii (f := fun x y => (x.toUInt32 >>> (y.toUInt32 &&& Int32.toUInt32 31)).toInt32) E (pc' := 39) rfl (fun _ => rfl) ?_
  intro x11 hx11a hx11b
  refine pw_add E (pc' := 40) rfl rfl ?_
  refine pw_nm (fun x12 hx12a hx12b => ?_)
  refine pw_istn E (pc' := 41) (ls' := [some (pw_i x12)]) rfl rfl rfl rfl ?_
  refine pw_ld E (pc' := 42) (st' := [pw_i x12]) rfl (fun _ => rfl) ?_
  refine pw_ld E (pc' := 43) (st' := [pw_i x12, pw_i x12]) rfl (fun _ => rfl) ?_
  refine pw_bip E (pc' := 45) rfl rfl (by decide) ?_
  refine pw_ii (f := fun x y => (x.toUInt32 >>> (y.toUInt32 &&& Int32.toUInt32 31)).toInt32) E (pc' := 46) rfl (fun _ => rfl) ?_
  intro x13 hx13a hx13b
  refine pw_add E (pc' := 47) rfl rfl ?_
  refine pw_nm (fun x14 hx14a hx14b => ?_)
  refine pw_istn E (pc' := 48) (ls' := [some (pw_i x14)]) rfl rfl rfl rfl ?_
  refine pw_ld E (pc' := 49) (st' := [pw_i x14]) rfl (fun _ => rfl) ?_
  refine pw_bip E (pc' := 51) rfl rfl (by decide) ?_
  refine pw_ii (f := fun x y => x &&& y) E (pc' := 52) rfl (fun _ => rfl) ?_
  intro x15 hx15a hx15b
  refine pw_iret E rfl ?_
  exact ⟨rfl, ⟨_, rfl, by omega, by omega⟩⟩
end
