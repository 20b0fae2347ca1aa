/-! contracts (printed by wip/tool/pwspec.py) -/
def pw_Lg (c : Nat) : Prop := c = 10 ∨ c = 12 ∨ c = 97 ∨ c = 106 ∨ c = 108 ∨ c = 111 ∨ c = 113 ∨ c = 116 ∨ c = 118 ∨ c = 121 ∨ c = 123
abbrev pw_LgF (c : Nat) : List pw_F := [(2, ((16 + (c + 1) : Nat) : Int), 0)]
theorem pw_Lg_o {c : Nat} (h : pw_Lg c) : pw_T[c]? = some (.inr (2, pw_LgF c)) := by
  rcases h with rfl | rfl | rfl | rfl | rfl | rfl | rfl | rfl | rfl | rfl | rfl <;> rfl
theorem pw_Lg_1 {c : Nat} (h : pw_Lg c) : pw_T[c + 1]? = some (.inl (0, 288, (-2), 9999)) := by
  rcases h with rfl | rfl | rfl | rfl | rfl | rfl | rfl | rfl | rfl | rfl | rfl <;> rfl
def pw_Fr (c : Nat) : Prop := c = 22 ∨ c = 23
abbrev pw_FrF (c : Nat) : List pw_F := [(1, 0, 0), (1, 0, 0)]
theorem pw_Fr_o {c : Nat} (h : pw_Fr c) : pw_T[c]? = some (.inr (1, pw_FrF c)) := by
  rcases h with rfl | rfl <;> rfl
def pw_Sc (c : Nat) : Prop := c = 39 ∨ c = 46 ∨ c = 53 ∨ c = 60 ∨ c = 67 ∨ c = 74 ∨ c = 81 ∨ c = 88
abbrev pw_ScF (c : Nat) : List pw_F := [(3, 0, 0), (0, 0, 1000), (2, ((16 + (c + 1) : Nat) : Int), 0), (2, ((16 + (c + 2) : Nat) : Int), 0), (2, ((16 + (c + 3) : Nat) : Int), 0), (2, ((16 + (c + 4) : Nat) : Int), 0), (2, ((16 + (c + 5) : Nat) : Int), 0)]
theorem pw_Sc_o {c : Nat} (h : pw_Sc c) : pw_T[c]? = some (.inr (7, pw_ScF c)) := by
  rcases h with rfl | rfl | rfl | rfl | rfl | rfl | rfl | rfl <;> rfl
theorem pw_Sc_1 {c : Nat} (h : pw_Sc c) : pw_T[c + 1]? = some (.inl (1, 4, 0, 1)) := by
  rcases h with rfl | rfl | rfl | rfl | rfl | rfl | rfl | rfl <;> rfl
theorem pw_Sc_2 {c : Nat} (h : pw_Sc c) : pw_T[c + 2]? = some (.inl (0, 4, 0, 1000)) := by
  rcases h with rfl | rfl | rfl | rfl | rfl | rfl | rfl | rfl <;> rfl
theorem pw_Sc_3 {c : Nat} (h : pw_Sc c) : pw_T[c + 3]? = some (.inl (0, 4, 0, 1000)) := by
  rcases h with rfl | rfl | rfl | rfl | rfl | rfl | rfl | rfl <;> rfl
theorem pw_Sc_4 {c : Nat} (h : pw_Sc c) : pw_T[c + 4]? = some (.inl (0, 4, 0, 11)) := by
  rcases h with rfl | rfl | rfl | rfl | rfl | rfl | rfl | rfl <;> rfl
theorem pw_Sc_5 {c : Nat} (h : pw_Sc c) : pw_T[c + 5]? = some (.inl (0, 40, (-2147483648), 2147483647)) := by
  rcases h with rfl | rfl | rfl | rfl | rfl | rfl | rfl | rfl <;> rfl
def pw_Mk (c : Nat) : Prop := c = 105 ∨ c = 110 ∨ c = 115 ∨ c = 120
abbrev pw_MkF (c : Nat) : List pw_F := [(2, ((16 + (c + 1) : Nat) : Int), 0), (2, ((16 + (c + 3) : Nat) : Int), 0), (0, 0, 20), (0, 0, 1)]
theorem pw_Mk_o {c : Nat} (h : pw_Mk c) : pw_T[c]? = some (.inr (3, pw_MkF c)) := by
  rcases h with rfl | rfl | rfl | rfl <;> rfl
set_option maxHeartbeats 4000000 in
theorem cm_121 {X : List (Nat × List Value)} {d : Nat} {h : pm_H} (hd : 1 ≤ d) (I : pw_I h) (n : Int) (hn1 : (-2147483648) ≤ n) (hn2 : n ≤ 2147483647) (lo : Int) (hlo1 : (-2147483648) ≤ lo) (hlo2 : lo ≤ 2147483647) (hi : Int) (hhi1 : (-2147483648) ≤ hi) (hhi2 : hi ≤ 2147483647) : pw X d h 121 0 [some (pw_i n), some (pw_i lo), some (pw_i hi)] [] (fun h' v => h = h' ∧ ∃ a : Int, v = .inl (some (pw_i a)) ∧ 0 ≤ a ∧ a ≤ 1 ∧ ((a = 1 ∧ lo ≤ n ∧ n ≤ hi) ∨ (a = 0 ∧ ¬ (lo ≤ n ∧ n ≤ hi)))) := by
  have E : pm_ent 121 = some (3, 3, 11, 1, pmc_121) := rfl
  refine pw_ld E (pc' := 1) (st' := [pw_i n]) rfl (fun _ => rfl) ?_
  refine pw_ld E (pc' := 2) (st' := [pw_i lo, pw_i n]) rfl (fun _ => rfl) ?_
  refine pw_if2 E (pc' := 14) rfl (by decide) (by omega) (by omega) (by omega) (by omega) ?_ ?_
  · intro hc1
    have hc1 : n < lo := hc1
    refine pw_ld E (pc' := 15) (st' := [pw_i 0]) rfl (fun _ => rfl) ?_
    refine pw_zret E rfl (by omega) ?_
    exact ⟨rfl, ⟨_, rfl, by omega, by omega, by omega⟩⟩
  · intro hc2
    have hc2 : ¬ (n < lo) := hc2
    refine pw_ld E (pc' := 6) (st' := [pw_i n]) rfl (fun _ => rfl) ?_
    refine pw_ld E (pc' := 7) (st' := [pw_i hi, pw_i n]) rfl (fun _ => rfl) ?_
    refine pw_if2 E (pc' := 14) rfl (by decide) (by omega) (by omega) (by omega) (by omega) ?_ ?_
    · intro hc3
      have hc3 : hi < n := hc3
      refine pw_ld E (pc' := 15) (st' := [pw_i 0]) rfl (fun _ => rfl) ?_
      refine pw_zret E rfl (by omega) ?_
      exact ⟨rfl, ⟨_, rfl, by omega, by omega, by omega⟩⟩
    · intro hc4
      have hc4 : ¬ (hi < n) := hc4
      refine pw_ld E (pc' := 11) (st' := [pw_i 1]) rfl (fun _ => rfl) ?_
      refine pw_goto E (pc' := 15) rfl (by decide) ?_
      refine pw_zret E rfl (by omega) ?_
      exact ⟨rfl, ⟨_, rfl, by omega, by omega, by omega⟩⟩
set_option maxHeartbeats 4000000 in
theorem cm_120 {X : List (Nat × List Value)} {d : Nat} {h : pm_H} (hd : 2 ≤ d) (I : pw_I h) (n : Int) (hn1 : (-2147483648) ≤ n) (hn2 : n ≤ 2147483647) : pw X d h 120 0 [some (pw_i n)] [] (fun h' v => h = h' ∧ ∃ a : Int, v = .inl (some (pw_i a)) ∧ 0 ≤ a ∧ a ≤ 1 ∧ ((a = 1 ∧ 0 ≤ n ∧ n ≤ 23) ∨ (a = 0 ∧ ¬ (0 ≤ n ∧ n ≤ 23)))) := by
  have E : pm_ent 120 = some (1, 1, 11, 1, pmc_120) := rfl
  refine pw_ld E (pc' := 1) (st' := [pw_i n]) rfl (fun _ => rfl) ?_
  refine pw_ld E (pc' := 2) (st' := [pw_i 0, pw_i n]) rfl (fun _ => rfl) ?_
  refine pw_bip E (pc' := 4) rfl rfl (by decide) ?_
  refine pw_call (m' := 121) (As := [pw_i n, pw_i 0, pw_i 23]) (rest := []) (ls'' := [some (pw_i n), some (pw_i 0), some (pw_i 23)]) (by omega) E rfl (fun _ => pw_iS rfl rfl rfl) (rfl : pm_ent 121 = some (3, 3, 11, 1, pmc_121)) rfl rfl (cm_121 (by omega) I (n) (by omega) (by omega) (0) (by omega) (by omega) (23) (by omega) (by omega)) ?_
  rintro u2 v1 ⟨rfl, x3, rfl, hx3a, hx3b, hx3r⟩
  refine ⟨_, rfl, ?_⟩
  show pw X d h 120 7 [some (pw_i n)] [pw_i x3] _
  have hx3r : (x3 = 1 ∧ 0 ≤ n ∧ n ≤ 23) ∨ (x3 = 0 ∧ ¬ (0 ≤ n ∧ n ≤ 23)) := hx3r
  refine pw_zret E rfl (by omega) ?_
  exact ⟨rfl, ⟨_, rfl, by omega, by omega, by omega⟩⟩
set_option maxHeartbeats 4000000 in
theorem cm_122 {X : List (Nat × List Value)} {d : Nat} {h : pm_H} (hd : 2 ≤ d) (I : pw_I h) (n : Int) (hn1 : (-2147483648) ≤ n) (hn2 : n ≤ 2147483647) : pw X d h 122 0 [some (pw_i n)] [] (fun h' v => h = h' ∧ ∃ a : Int, v = .inl (some (pw_i a)) ∧ 0 ≤ a ∧ a ≤ 1 ∧ ((a = 1 ∧ 0 ≤ n ∧ n ≤ 1) ∨ (a = 0 ∧ ¬ (0 ≤ n ∧ n ≤ 1)))) := by
  have E : pm_ent 122 = some (1, 1, 11, 1, pmc_122) := rfl
  refine pw_ld E (pc' := 1) (st' := [pw_i n]) rfl (fun _ => rfl) ?_
  refine pw_ld E (pc' := 2) (st' := [pw_i 0, pw_i n]) rfl (fun _ => rfl) ?_
  refine pw_ld E (pc' := 3) (st' := [pw_i 1, pw_i 0, pw_i n]) rfl (fun _ => rfl) ?_
  refine pw_call (m' := 121) (As := [pw_i n, pw_i 0, pw_i 1]) (rest := []) (ls'' := [some (pw_i n), some (pw_i 0), some (pw_i 1)]) (by omega) E rfl (fun _ => pw_iS rfl rfl rfl) (rfl : pm_ent 121 = some (3, 3, 11, 1, pmc_121)) rfl rfl (cm_121 (by omega) I (n) (by omega) (by omega) (0) (by omega) (by omega) (1) (by omega) (by omega)) ?_
  rintro u2 v1 ⟨rfl, x3, rfl, hx3a, hx3b, hx3r⟩
  refine ⟨_, rfl, ?_⟩
  show pw X d h 122 6 [some (pw_i n)] [pw_i x3] _
  have hx3r : (x3 = 1 ∧ 0 ≤ n ∧ n ≤ 1) ∨ (x3 = 0 ∧ ¬ (0 ≤ n ∧ n ≤ 1)) := hx3r
  refine pw_zret E rfl (by omega) ?_
  exact ⟨rfl, ⟨_, rfl, by omega, by omega, by omega⟩⟩
set_option maxHeartbeats 4000000 in
theorem cm_125 {X : List (Nat × List Value)} {d : Nat} {h : pm_H} (hd : 2 ≤ d) (I : pw_I h) (n : Int) (hn1 : (-2147483648) ≤ n) (hn2 : n ≤ 2147483647) : pw X d h 125 0 [some (pw_i n)] [] (fun h' v => h = h' ∧ ∃ a : Int, v = .inl (some (pw_i a)) ∧ 0 ≤ a ∧ a ≤ 1 ∧ ((a = 1 ∧ 0 ≤ n ∧ n ≤ 11) ∨ (a = 0 ∧ ¬ (0 ≤ n ∧ n ≤ 11)))) := by
  have E : pm_ent 125 = some (1, 1, 11, 1, pmc_125) := rfl
  refine pw_ld E (pc' := 1) (st' := [pw_i n]) rfl (fun _ => rfl) ?_
  refine pw_ld E (pc' := 2) (st' := [pw_i 0, pw_i n]) rfl (fun _ => rfl) ?_
  refine pw_bip E (pc' := 4) rfl rfl (by decide) ?_
  refine pw_call (m' := 121) (As := [pw_i n, pw_i 0, pw_i 11]) (rest := []) (ls'' := [some (pw_i n), some (pw_i 0), some (pw_i 11)]) (by omega) E rfl (fun _ => pw_iS rfl rfl rfl) (rfl : pm_ent 121 = some (3, 3, 11, 1, pmc_121)) rfl rfl (cm_121 (by omega) I (n) (by omega) (by omega) (0) (by omega) (by omega) (11) (by omega) (by omega)) ?_
  rintro u2 v1 ⟨rfl, x3, rfl, hx3a, hx3b, hx3r⟩
  refine ⟨_, rfl, ?_⟩
  show pw X d h 125 7 [some (pw_i n)] [pw_i x3] _
  have hx3r : (x3 = 1 ∧ 0 ≤ n ∧ n ≤ 11) ∨ (x3 = 0 ∧ ¬ (0 ≤ n ∧ n ≤ 11)) := hx3r
  refine pw_zret E rfl (by omega) ?_
  exact ⟨rfl, ⟨_, rfl, by omega, by omega, by omega⟩⟩
set_option maxHeartbeats 4000000 in
theorem cm_142 {X : List (Nat × List Value)} {d : Nat} {h : pm_H} (hd : 2 ≤ d) (I : pw_I h) (n : Int) (hn1 : (-2147483648) ≤ n) (hn2 : n ≤ 2147483647) : pw X d h 142 0 [some (pw_i n)] [] (fun h' v => h = h' ∧ ∃ a : Int, v = .inl (some (pw_i a)) ∧ 0 ≤ a ∧ a ≤ 1 ∧ ((a = 1 ∧ 0 ≤ n ∧ n ≤ 3) ∨ (a = 0 ∧ ¬ (0 ≤ n ∧ n ≤ 3)))) := by
  have E : pm_ent 142 = some (1, 1, 11, 1, pmc_142) := rfl
  refine pw_ld E (pc' := 1) (st' := [pw_i n]) rfl (fun _ => rfl) ?_
  refine pw_ld E (pc' := 2) (st' := [pw_i 0, pw_i n]) rfl (fun _ => rfl) ?_
  refine pw_ld E (pc' := 3) (st' := [pw_i 3, pw_i 0, pw_i n]) rfl (fun _ => rfl) ?_
  refine pw_call (m' := 121) (As := [pw_i n, pw_i 0, pw_i 3]) (rest := []) (ls'' := [some (pw_i n), some (pw_i 0), some (pw_i 3)]) (by omega) E rfl (fun _ => pw_iS rfl rfl rfl) (rfl : pm_ent 121 = some (3, 3, 11, 1, pmc_121)) rfl rfl (cm_121 (by omega) I (n) (by omega) (by omega) (0) (by omega) (by omega) (3) (by omega) (by omega)) ?_
  rintro u2 v1 ⟨rfl, x3, rfl, hx3a, hx3b, hx3r⟩
  refine ⟨_, rfl, ?_⟩
  show pw X d h 142 6 [some (pw_i n)] [pw_i x3] _
  have hx3r : (x3 = 1 ∧ 0 ≤ n ∧ n ≤ 3) ∨ (x3 = 0 ∧ ¬ (0 ≤ n ∧ n ≤ 3)) := hx3r
  refine pw_zret E rfl (by omega) ?_
  exact ⟨rfl, ⟨_, rfl, by omega, by omega, by omega⟩⟩
set_option maxHeartbeats 4000000 in
theorem cm_137 {X : List (Nat × List Value)} {d : Nat} {h : pm_H} (hd : 2 ≤ d) (I : pw_I h) (n : Int) (hn1 : (-2147483648) ≤ n) (hn2 : n ≤ 2147483647) : pw X d h 137 0 [some (pw_i n)] [] (fun h' v => h = h' ∧ ∃ a : Int, v = .inl (some (pw_i a)) ∧ 0 ≤ a ∧ a ≤ 1 ∧ ((a = 1 ∧ 0 ≤ n ∧ n ≤ 1) ∨ (a = 0 ∧ ¬ (0 ≤ n ∧ n ≤ 1)))) := by
  have E : pm_ent 137 = some (1, 1, 11, 1, pmc_137) := rfl
  refine pw_ld E (pc' := 1) (st' := [pw_i n]) rfl (fun _ => rfl) ?_
  refine pw_ld E (pc' := 2) (st' := [pw_i 0, pw_i n]) rfl (fun _ => rfl) ?_
  refine pw_ld E (pc' := 3) (st' := [pw_i 1, pw_i 0, pw_i n]) rfl (fun _ => rfl) ?_
  refine pw_call (m' := 121) (As := [pw_i n, pw_i 0, pw_i 1]) (rest := []) (ls'' := [some (pw_i n), some (pw_i 0), some (pw_i 1)]) (by omega) E rfl (fun _ => pw_iS rfl rfl rfl) (rfl : pm_ent 121 = some (3, 3, 11, 1, pmc_121)) rfl rfl (cm_121 (by omega) I (n) (by omega) (by omega) (0) (by omega) (by omega) (1) (by omega) (by omega)) ?_
  rintro u2 v1 ⟨rfl, x3, rfl, hx3a, hx3b, hx3r⟩
  refine ⟨_, rfl, ?_⟩
  show pw X d h 137 6 [some (pw_i n)] [pw_i x3] _
  have hx3r : (x3 = 1 ∧ 0 ≤ n ∧ n ≤ 1) ∨ (x3 = 0 ∧ ¬ (0 ≤ n ∧ n ≤ 1)) := hx3r
  refine pw_zret E rfl (by omega) ?_
  exact ⟨rfl, ⟨_, rfl, by omega, by omega, by omega⟩⟩
set_option maxHeartbeats 4000000 in
theorem cm_174 {X : List (Nat × List Value)} {d : Nat} {h : pm_H} (hd : 2 ≤ d) (I : pw_I h) (n : Int) (hn1 : (-2147483648) ≤ n) (hn2 : n ≤ 2147483647) : pw X d h 174 0 [some (pw_i n)] [] (fun h' v => h = h' ∧ ∃ a : Int, v = .inl (some (pw_i a)) ∧ 0 ≤ a ∧ a ≤ 1 ∧ ((a = 1 ∧ 0 ≤ n ∧ n ≤ 3) ∨ (a = 0 ∧ ¬ (0 ≤ n ∧ n ≤ 3)))) := by
  have E : pm_ent 174 = some (1, 1, 11, 1, pmc_174) := rfl
  refine pw_ld E (pc' := 1) (st' := [pw_i n]) rfl (fun _ => rfl) ?_
  refine pw_ld E (pc' := 2) (st' := [pw_i 0, pw_i n]) rfl (fun _ => rfl) ?_
  refine pw_ld E (pc' := 3) (st' := [pw_i 3, pw_i 0, pw_i n]) rfl (fun _ => rfl) ?_
  refine pw_call (m' := 121) (As := [pw_i n, pw_i 0, pw_i 3]) (rest := []) (ls'' := [some (pw_i n), some (pw_i 0), some (pw_i 3)]) (by omega) E rfl (fun _ => pw_iS rfl rfl rfl) (rfl : pm_ent 121 = some (3, 3, 11, 1, pmc_121)) rfl rfl (cm_121 (by omega) I (n) (by omega) (by omega) (0) (by omega) (by omega) (3) (by omega) (by omega)) ?_
  rintro u2 v1 ⟨rfl, x3, rfl, hx3a, hx3b, hx3r⟩
  refine ⟨_, rfl, ?_⟩
  show pw X d h 174 6 [some (pw_i n)] [pw_i x3] _
  have hx3r : (x3 = 1 ∧ 0 ≤ n ∧ n ≤ 3) ∨ (x3 = 0 ∧ ¬ (0 ≤ n ∧ n ≤ 3)) := hx3r
  refine pw_zret E rfl (by omega) ?_
  exact ⟨rfl, ⟨_, rfl, by omega, by omega, by omega⟩⟩
set_option maxHeartbeats 4000000 in
theorem cm_175 {X : List (Nat × List Value)} {d : Nat} {h : pm_H} (hd : 1 ≤ d) (I : pw_I h) (n : Int) (hn1 : (-2147483648) ≤ n) (hn2 : n ≤ 2147483647) : pw X d h 175 0 [some (pw_i n)] [] (fun h' v => h = h' ∧ ∃ a : Int, v = .inl (some (pw_i a)) ∧ 0 ≤ a ∧ a ≤ 1) := by
  have E : pm_ent 175 = some (1, 1, 11, 1, pmc_175) := rfl
  refine pw_ld E (pc' := 1) (st' := [pw_i n]) rfl (fun _ => rfl) ?_
  refine pw_ld E (pc' := 2) (st' := [pw_i 2, pw_i n]) rfl (fun _ => rfl) ?_
  refine pw_if2 E (pc' := 9) rfl (by decide) (by omega) (by omega) (by decide) (by decide) ?_ ?_
  · intro hc1
    have hc1 : n < (2 : Int) := hc1
    refine pw_ld E (pc' := 10) (st' := [pw_i 0]) rfl (fun _ => rfl) ?_
    refine pw_zret E rfl (by omega) ?_
    exact ⟨rfl, ⟨_, rfl, by omega, by omega⟩⟩
  · intro hc2
    have hc2 : ¬ (n < (2 : Int)) := hc2
    refine pw_ld E (pc' := 6) (st' := [pw_i 1]) rfl (fun _ => rfl) ?_
    refine pw_goto E (pc' := 10) rfl (by decide) ?_
    refine pw_zret E rfl (by omega) ?_
    exact ⟨rfl, ⟨_, rfl, by omega, by omega⟩⟩
set_option maxHeartbeats 4000000 in
theorem cm_176 {X : List (Nat × List Value)} {d : Nat} {h : pm_H} (hd : 1 ≤ d) (I : pw_I h) (n : Int) (hn1 : 0 ≤ n) (hn2 : n ≤ 3) : pw X d h 176 0 [some (pw_i n)] [] (fun h' v => h = h' ∧ ∃ a : Int, v = .inl (some (pw_i a)) ∧ 0 ≤ a ∧ a ≤ 1) := by
  have E : pm_ent 176 = some (1, 1, 11, 0, pmc_176) := rfl
  refine pw_ld E (pc' := 1) (st' := [pw_i n]) rfl (fun _ => rfl) ?_
  refine pw_ld E (pc' := 2) (st' := [pw_i 2, pw_i n]) rfl (fun _ => rfl) ?_
  refine pw_rem E (pc' := 3) rfl rfl (by omega) (by omega) (by decide) (by decide) ?_
  refine pw_iret E rfl ?_
  exact ⟨rfl, ⟨_, rfl, by omega, by omega⟩⟩
set_option maxHeartbeats 4000000 in
theorem cm_131 {X : List (Nat × List Value)} {d : Nat} {h : pm_H} (hd : 3 ≤ d) (I : pw_I h) (b : Int) (hb1 : (-2147483648) ≤ b) (hb2 : b ≤ 2147483647) (e : Int) (he1 : (-2147483648) ≤ e) (he2 : e ≤ 2147483647) : pw X d h 131 0 [some (pw_i b), some (pw_i e)] [] (fun h' v => h = h' ∧ ∃ a : Int, v = .inl (some (pw_i a)) ∧ 0 ≤ a ∧ a ≤ 1 ∧ ((a = 1 ∧ 0 ≤ b ∧ b ≤ 11 ∧ 0 ≤ e ∧ e ≤ 11) ∨ a = 0)) := by
  have E : pm_ent 131 = some (2, 2, 11, 1, pmc_131) := rfl
  refine pw_ld E (pc' := 1) (st' := [pw_i b]) rfl (fun _ => rfl) ?_
  refine pw_call (m' := 125) (As := [pw_i b]) (rest := []) (ls'' := [some (pw_i b)]) (by omega) E rfl (fun _ => pw_iS rfl rfl rfl) (rfl : pm_ent 125 = some (1, 1, 11, 1, pmc_125)) rfl rfl (cm_125 (by omega) I (b) (by omega) (by omega)) ?_
  rintro u2 v1 ⟨rfl, x3, rfl, hx3a, hx3b, hx3r⟩
  refine ⟨_, rfl, ?_⟩
  show pw X d h 131 4 [some (pw_i b), some (pw_i e)] [pw_i x3] _
  have hx3r : (x3 = 1 ∧ 0 ≤ b ∧ b ≤ 11) ∨ (x3 = 0 ∧ ¬ (0 ≤ b ∧ b ≤ 11)) := hx3r
  rcases (by omega : x3 = 1 ∨ x3 = 0) with hb4 | hb4
  · have hb4 : x3 = 1 := by omega
    refine pw_if E (pc' := 23) rfl (by decide) (by omega) (by omega) ?_ ?_
    · intro hc5
      have hc5 : x3 = (0 : Int) := hc5
      exfalso; omega
    · intro hc6
      have hc6 : ¬ (x3 = (0 : Int)) := hc6
      refine pw_ld E (pc' := 8) (st' := [pw_i e]) rfl (fun _ => rfl) ?_
      refine pw_call (m' := 125) (As := [pw_i e]) (rest := []) (ls'' := [some (pw_i e)]) (by omega) E rfl (fun _ => pw_iS rfl rfl rfl) (rfl : pm_ent 125 = some (1, 1, 11, 1, pmc_125)) rfl rfl (cm_125 (by omega) I (e) (by omega) (by omega)) ?_
      rintro u8 v7 ⟨rfl, x9, rfl, hx9a, hx9b, hx9r⟩
      refine ⟨_, rfl, ?_⟩
      show pw X d h 131 11 [some (pw_i b), some (pw_i e)] [pw_i x9] _
      have hx9r : (x9 = 1 ∧ 0 ≤ e ∧ e ≤ 11) ∨ (x9 = 0 ∧ ¬ (0 ≤ e ∧ e ≤ 11)) := hx9r
      rcases (by omega : x9 = 1 ∨ x9 = 0) with hb10 | hb10
      · have hb10 : x9 = 1 := by omega
        refine pw_if E (pc' := 23) rfl (by decide) (by omega) (by omega) ?_ ?_
        · intro hc11
          have hc11 : x9 = (0 : Int) := hc11
          exfalso; omega
        · intro hc12
          have hc12 : ¬ (x9 = (0 : Int)) := hc12
          refine pw_ld E (pc' := 15) (st' := [pw_i b]) rfl (fun _ => rfl) ?_
          refine pw_ld E (pc' := 16) (st' := [pw_i e, pw_i b]) rfl (fun _ => rfl) ?_
          refine pw_if2 E (pc' := 23) rfl (by decide) (by omega) (by omega) (by omega) (by omega) ?_ ?_
          · intro hc13
            have hc13 : b = e := hc13
            refine pw_ld E (pc' := 24) (st' := [pw_i 0]) rfl (fun _ => rfl) ?_
            refine pw_zret E rfl (by omega) ?_
            exact ⟨rfl, ⟨_, rfl, by omega, by omega, by omega⟩⟩
          · intro hc14
            have hc14 : ¬ (b = e) := hc14
            refine pw_ld E (pc' := 20) (st' := [pw_i 1]) rfl (fun _ => rfl) ?_
            refine pw_goto E (pc' := 24) rfl (by decide) ?_
            refine pw_zret E rfl (by omega) ?_
            exact ⟨rfl, ⟨_, rfl, by omega, by omega, by omega⟩⟩
      · have hb15 : x9 = 0 := by omega
        refine pw_if E (pc' := 23) rfl (by decide) (by omega) (by omega) ?_ ?_
        · intro hc16
          have hc16 : x9 = (0 : Int) := hc16
          refine pw_ld E (pc' := 24) (st' := [pw_i 0]) rfl (fun _ => rfl) ?_
          refine pw_zret E rfl (by omega) ?_
          exact ⟨rfl, ⟨_, rfl, by omega, by omega, by omega⟩⟩
        · intro hc17
          have hc17 : ¬ (x9 = (0 : Int)) := hc17
          exfalso; omega
  · have hb18 : x3 = 0 := by omega
    refine pw_if E (pc' := 23) rfl (by decide) (by omega) (by omega) ?_ ?_
    · intro hc19
      have hc19 : x3 = (0 : Int) := hc19
      refine pw_ld E (pc' := 24) (st' := [pw_i 0]) rfl (fun _ => rfl) ?_
      refine pw_zret E rfl (by omega) ?_
      exact ⟨rfl, ⟨_, rfl, by omega, by omega, by omega⟩⟩
    · intro hc20
      have hc20 : ¬ (x3 = (0 : Int)) := hc20
      exfalso; omega
set_option maxHeartbeats 4000000 in
theorem cm_58 {X : List (Nat × List Value)} {d : Nat} {h : pm_H} (hd : 1 ≤ d) (I : pw_I h) (k : Int) (hk1 : 0 ≤ k) (hk2 : k ≤ 23) (b : Int) (hb1 : 0 ≤ b) (hb2 : b ≤ 1) (w : Int) (hw1 : 0 ≤ w) (hw2 : w ≤ 999) (mx : Int) (hmx1 : 0 ≤ mx) (hmx2 : mx ≤ 99) (z : Int) (hz1 : 0 ≤ z) (hz2 : z ≤ 1) : pw X d h 58 0 [some (.ref 17), some (pw_i k), some (pw_i b), some (pw_i w), some (pw_i mx), some (pw_i z)] [] (fun h' v => pw_I h' ∧ pw_E [2, 3, 4, 5, 6] h h' ∧ v = .inl none) := by
  have E : pm_ent 58 = some (6, 6, 6, 4, pmc_58) := rfl
  have E0 : pw_E [2, 3, 4, 5, 6] h h := pw_E.rf _ _
  refine pw_ld E (pc' := 1) (st' := [.ref 17]) rfl (fun _ => rfl) ?_
  refine pw_getR (b := 18) I E (c := 1) (k := 0) (pc' := 4) rfl rfl rfl rfl rfl rfl rfl ?_
  refine pw_ld E (pc' := 5) (st' := [pw_i k, .ref 18]) rfl (fun _ => rfl) ?_
  refine pw_ld E (pc' := 6) (st' := [pw_i 1, pw_i k, .ref 18]) rfl (fun _ => rfl) ?_
  refine pw_ast0 I E (c := 2) (pc' := 7) rfl rfl rfl (by decide) rfl (by decide) (by omega) (by omega) (pw_b1 (by omega) (by omega)) (by omega) (by omega) (by omega) (by omega) rfl ?_
  intro h1I h1E
  generalize h1w : pw_w h 2 (k.toNat) (pw_i 1) = h1 at h1I h1E ⊢
  have h1F := E0.tr (h1E.wk (W' := [2, 3, 4, 5, 6]) (by first | rfl | simp))
  refine pw_ld E (pc' := 8) (st' := [.ref 17]) rfl (fun _ => rfl) ?_
  refine pw_getR (b := 19) h1I E (c := 1) (k := 1) (pc' := 11) rfl rfl rfl rfl rfl rfl rfl ?_
  refine pw_ld E (pc' := 12) (st' := [pw_i k, .ref 19]) rfl (fun _ => rfl) ?_
  refine pw_ld E (pc' := 14) (st' := [pw_i z, pw_i k, .ref 19]) rfl (fun _ => rfl) ?_
  refine pw_ast0 h1I E (c := 3) (pc' := 15) rfl rfl rfl (by decide) rfl (by decide) (by omega) (by omega) (pw_b1 (by omega) (by omega)) (by omega) (by omega) (by omega) (by omega) rfl ?_
  intro h2I h2E
  generalize h2w : pw_w h1 3 (k.toNat) (pw_i z) = h2 at h2I h2E ⊢
  have h2F := h1F.tr (h2E.wk (W' := [2, 3, 4, 5, 6]) (by first | rfl | simp))
  refine pw_ld E (pc' := 16) (st' := [.ref 17]) rfl (fun _ => rfl) ?_
  refine pw_getR (b := 20) h2I E (c := 1) (k := 2) (pc' := 19) rfl rfl rfl rfl rfl rfl rfl ?_
  refine pw_ld E (pc' := 20) (st' := [pw_i k, .ref 20]) rfl (fun _ => rfl) ?_
  refine pw_ld E (pc' := 21) (st' := [pw_i b, pw_i k, .ref 20]) rfl (fun _ => rfl) ?_
  refine pw_ast0 h2I E (c := 4) (pc' := 22) rfl rfl rfl (by decide) rfl (by decide) (by omega) (by omega) rfl (by omega) (by omega) (by omega) (by omega) rfl ?_
  intro h3I h3E
  generalize h3w : pw_w h2 4 (k.toNat) (pw_i b) = h3 at h3I h3E ⊢
  have h3F := h2F.tr (h3E.wk (W' := [2, 3, 4, 5, 6]) (by first | rfl | simp))
  refine pw_ld E (pc' := 23) (st' := [.ref 17]) rfl (fun _ => rfl) ?_
  refine pw_getR (b := 21) h3I E (c := 1) (k := 3) (pc' := 26) rfl rfl rfl rfl rfl rfl rfl ?_
  refine pw_ld E (pc' := 27) (st' := [pw_i k, .ref 21]) rfl (fun _ => rfl) ?_
  refine pw_ld E (pc' := 28) (st' := [pw_i w, pw_i k, .ref 21]) rfl (fun _ => rfl) ?_
  refine pw_ast0 h3I E (c := 5) (pc' := 29) rfl rfl rfl (by decide) rfl (by decide) (by omega) (by omega) rfl (by omega) (by omega) (by omega) (by omega) rfl ?_
  intro h4I h4E
  generalize h4w : pw_w h3 5 (k.toNat) (pw_i w) = h4 at h4I h4E ⊢
  have h4F := h3F.tr (h4E.wk (W' := [2, 3, 4, 5, 6]) (by first | rfl | simp))
  refine pw_ld E (pc' := 30) (st' := [.ref 17]) rfl (fun _ => rfl) ?_
  refine pw_getR (b := 22) h4I E (c := 1) (k := 4) (pc' := 33) rfl rfl rfl rfl rfl rfl rfl ?_
  refine pw_ld E (pc' := 34) (st' := [pw_i k, .ref 22]) rfl (fun _ => rfl) ?_
  refine pw_ld E (pc' := 36) (st' := [pw_i mx, pw_i k, .ref 22]) rfl (fun _ => rfl) ?_
  refine pw_ast0 h4I E (c := 6) (pc' := 37) rfl rfl rfl (by decide) rfl (by decide) (by omega) (by omega) rfl (by omega) (by omega) (by omega) (by omega) rfl ?_
  intro h5I h5E
  generalize h5w : pw_w h4 6 (k.toNat) (pw_i mx) = h5 at h5I h5E ⊢
  have h5F := h4F.tr (h5E.wk (W' := [2, 3, 4, 5, 6]) (by first | rfl | simp))
  refine pw_vret E rfl ?_
  exact ⟨h5I, h5F, rfl⟩
set_option maxHeartbeats 4000000 in
theorem cm_59 {X : List (Nat × List Value)} {d : Nat} {h : pm_H} (hd : 1 ≤ d) (I : pw_I h) (k : Int) (hk1 : 0 ≤ k) (hk2 : k ≤ 23) : pw X d h 59 0 [some (.ref 17), some (pw_i k)] [] (fun h' v => h = h' ∧ ∃ a : Int, v = .inl (some (pw_i a)) ∧ 0 ≤ a ∧ a ≤ 1 ∧ (a = pw_g h 2 k.toNat)) := by
  have E : pm_ent 59 = some (2, 2, 6, 1, pmc_59) := rfl
  refine pw_ld E (pc' := 1) (st' := [.ref 17]) rfl (fun _ => rfl) ?_
  refine pw_getR (b := 18) I E (c := 1) (k := 0) (pc' := 4) rfl rfl rfl rfl rfl rfl rfl ?_
  refine pw_ld E (pc' := 5) (st' := [pw_i k, .ref 18]) rfl (fun _ => rfl) ?_
  refine pw_ald I E (c := 2) (pc' := 6) rfl rfl rfl (by decide) rfl (by decide) (by omega) (by omega) rfl (fun hf1a hf1b hf1c hf1d => ?_)
  refine pw_zret E rfl (by omega) ?_
  exact ⟨rfl, ⟨_, rfl, by omega, by omega, by omega⟩⟩
set_option maxHeartbeats 4000000 in
theorem cm_65 {X : List (Nat × List Value)} {d : Nat} {h : pm_H} (hd : 1 ≤ d) (I : pw_I h) (k : Int) (hk1 : 0 ≤ k) (hk2 : k ≤ 23) : pw X d h 65 0 [some (.ref 17), some (pw_i k)] [] (fun h' v => h = h' ∧ ∃ a : Int, v = .inl (some (pw_i a)) ∧ 0 ≤ a ∧ a ≤ 1 ∧ (a = pw_g h 3 k.toNat)) := by
  have E : pm_ent 65 = some (2, 2, 6, 1, pmc_65) := rfl
  refine pw_ld E (pc' := 1) (st' := [.ref 17]) rfl (fun _ => rfl) ?_
  refine pw_getR (b := 19) I E (c := 1) (k := 1) (pc' := 4) rfl rfl rfl rfl rfl rfl rfl ?_
  refine pw_ld E (pc' := 5) (st' := [pw_i k, .ref 19]) rfl (fun _ => rfl) ?_
  refine pw_ald I E (c := 3) (pc' := 6) rfl rfl rfl (by decide) rfl (by decide) (by omega) (by omega) rfl (fun hf1a hf1b hf1c hf1d => ?_)
  refine pw_zret E rfl (by omega) ?_
  exact ⟨rfl, ⟨_, rfl, by omega, by omega, by omega⟩⟩
set_option maxHeartbeats 4000000 in
theorem cm_60 {X : List (Nat × List Value)} {d : Nat} {h : pm_H} (hd : 1 ≤ d) (I : pw_I h) (k : Int) (hk1 : 0 ≤ k) (hk2 : k ≤ 23) : pw X d h 60 0 [some (.ref 17), some (pw_i k)] [] (fun h' v => h = h' ∧ ∃ a : Int, v = .inl (some (pw_i a)) ∧ 0 ≤ a ∧ a ≤ 1 ∧ (a = pw_g h 4 k.toNat)) := by
  have E : pm_ent 60 = some (2, 2, 6, 0, pmc_60) := rfl
  refine pw_ld E (pc' := 1) (st' := [.ref 17]) rfl (fun _ => rfl) ?_
  refine pw_getR (b := 20) I E (c := 1) (k := 2) (pc' := 4) rfl rfl rfl rfl rfl rfl rfl ?_
  refine pw_ld E (pc' := 5) (st' := [pw_i k, .ref 20]) rfl (fun _ => rfl) ?_
  refine pw_ald I E (c := 4) (pc' := 6) rfl rfl rfl (by decide) rfl (by decide) (by omega) (by omega) rfl (fun hf1a hf1b hf1c hf1d => ?_)
  refine pw_iret E rfl ?_
  exact ⟨rfl, ⟨_, rfl, by omega, by omega, by omega⟩⟩
set_option maxHeartbeats 4000000 in
theorem cm_64 {X : List (Nat × List Value)} {d : Nat} {h : pm_H} (hd : 1 ≤ d) (I : pw_I h) (k : Int) (hk1 : 0 ≤ k) (hk2 : k ≤ 23) : pw X d h 64 0 [some (.ref 17), some (pw_i k)] [] (fun h' v => h = h' ∧ ∃ a : Int, v = .inl (some (pw_i a)) ∧ 0 ≤ a ∧ a ≤ 999 ∧ (a = pw_g h 5 k.toNat)) := by
  have E : pm_ent 64 = some (2, 2, 6, 0, pmc_64) := rfl
  refine pw_ld E (pc' := 1) (st' := [.ref 17]) rfl (fun _ => rfl) ?_
  refine pw_getR (b := 21) I E (c := 1) (k := 3) (pc' := 4) rfl rfl rfl rfl rfl rfl rfl ?_
  refine pw_ld E (pc' := 5) (st' := [pw_i k, .ref 21]) rfl (fun _ => rfl) ?_
  refine pw_ald I E (c := 5) (pc' := 6) rfl rfl rfl (by decide) rfl (by decide) (by omega) (by omega) rfl (fun hf1a hf1b hf1c hf1d => ?_)
  refine pw_iret E rfl ?_
  exact ⟨rfl, ⟨_, rfl, by omega, by omega, by omega⟩⟩
set_option maxHeartbeats 4000000 in
theorem cm_61 {X : List (Nat × List Value)} {d : Nat} {h : pm_H} (hd : 1 ≤ d) (I : pw_I h) (k : Int) (hk1 : 0 ≤ k) (hk2 : k ≤ 23) : pw X d h 61 0 [some (.ref 17), some (pw_i k)] [] (fun h' v => h = h' ∧ ∃ a : Int, v = .inl (some (pw_i a)) ∧ 0 ≤ a ∧ a ≤ 99 ∧ (a = pw_g h 6 k.toNat)) := by
  have E : pm_ent 61 = some (2, 2, 6, 0, pmc_61) := rfl
  refine pw_ld E (pc' := 1) (st' := [.ref 17]) rfl (fun _ => rfl) ?_
  refine pw_getR (b := 22) I E (c := 1) (k := 4) (pc' := 4) rfl rfl rfl rfl rfl rfl rfl ?_
  refine pw_ld E (pc' := 5) (st' := [pw_i k, .ref 22]) rfl (fun _ => rfl) ?_
  refine pw_ald I E (c := 6) (pc' := 6) rfl rfl rfl (by decide) rfl (by decide) (by omega) (by omega) rfl (fun hf1a hf1b hf1c hf1d => ?_)
  refine pw_iret E rfl ?_
  exact ⟨rfl, ⟨_, rfl, by omega, by omega, by omega⟩⟩
set_option maxHeartbeats 4000000 in
theorem cm_63 {X : List (Nat × List Value)} {d : Nat} {h : pm_H} (hd : 1 ≤ d) (I : pw_I h) (k : Int) (hk1 : 0 ≤ k) (hk2 : k ≤ 23) (b : Int) (hb1 : (-2147483648) ≤ b) (hb2 : b ≤ 2147483647) : pw X d h 63 0 [some (.ref 17), some (pw_i k), some (pw_i b)] [] (fun h' v => h = h' ∧ ∃ a : Int, v = .inl (some (pw_i a)) ∧ 0 ≤ a ∧ a ≤ 1) := by
  have E : pm_ent 63 = some (3, 3, 6, 1, pmc_63) := rfl
  refine pw_ld E (pc' := 1) (st' := [.ref 17]) rfl (fun _ => rfl) ?_
  refine pw_getR (b := 18) I E (c := 1) (k := 0) (pc' := 4) rfl rfl rfl rfl rfl rfl rfl ?_
  refine pw_ld E (pc' := 5) (st' := [pw_i k, .ref 18]) rfl (fun _ => rfl) ?_
  refine pw_ald I E (c := 2) (pc' := 6) rfl rfl rfl (by decide) rfl (by decide) (by omega) (by omega) rfl (fun hf1a hf1b hf1c hf1d => ?_)
  refine pw_if E (pc' := 23) rfl (by decide) (by omega) (by omega) ?_ ?_
  · intro hc2
    have hc2 : pw_g h 2 (k.toNat) = (0 : Int) := hc2
    refine pw_ld E (pc' := 24) (st' := [pw_i 0]) rfl (fun _ => rfl) ?_
    refine pw_zret E rfl (by omega) ?_
    exact ⟨rfl, ⟨_, rfl, by omega, by omega⟩⟩
  · intro hc3
    have hc3 : ¬ (pw_g h 2 (k.toNat) = (0 : Int)) := hc3
    refine pw_ld E (pc' := 10) (st' := [.ref 17]) rfl (fun _ => rfl) ?_
    refine pw_getR (b := 20) I E (c := 1) (k := 2) (pc' := 13) rfl rfl rfl rfl rfl rfl rfl ?_
    refine pw_ld E (pc' := 14) (st' := [pw_i k, .ref 20]) rfl (fun _ => rfl) ?_
    refine pw_ald I E (c := 4) (pc' := 15) rfl rfl rfl (by decide) rfl (by decide) (by omega) (by omega) rfl (fun hf4a hf4b hf4c hf4d => ?_)
    refine pw_ld E (pc' := 16) (st' := [pw_i b, pw_i (pw_g h 4 (k.toNat))]) rfl (fun _ => rfl) ?_
    refine pw_if2 E (pc' := 23) rfl (by decide) (by omega) (by omega) (by omega) (by omega) ?_ ?_
    · intro hc5
      have hc5 : pw_g h 4 (k.toNat) ≠ b := hc5
      refine pw_ld E (pc' := 24) (st' := [pw_i 0]) rfl (fun _ => rfl) ?_
      refine pw_zret E rfl (by omega) ?_
      exact ⟨rfl, ⟨_, rfl, by omega, by omega⟩⟩
    · intro hc6
      have hc6 : ¬ (pw_g h 4 (k.toNat) ≠ b) := hc6
      refine pw_ld E (pc' := 20) (st' := [pw_i 1]) rfl (fun _ => rfl) ?_
      refine pw_goto E (pc' := 24) rfl (by decide) ?_
      refine pw_zret E rfl (by omega) ?_
      exact ⟨rfl, ⟨_, rfl, by omega, by omega⟩⟩
set_option maxHeartbeats 4000000 in
theorem cm_62 {X : List (Nat × List Value)} {d : Nat} {h : pm_H} (hd : 2 ≤ d) (I : pw_I h) (b : Int) (hb1 : (-2147483648) ≤ b) (hb2 : b ≤ 2147483647) : pw X d h 62 0 [some (.ref 17), some (pw_i b), none, none] [] (fun h' v => h = h' ∧ ∃ a : Int, v = .inl (some (pw_i a)) ∧ 0 ≤ a ∧ a ≤ 24) := by
  have E : pm_ent 62 = some (2, 4, 6, 0, pmc_62) := rfl
  refine pw_ld E (pc' := 1) (st' := [pw_i 0]) rfl (fun _ => rfl) ?_
  refine pw_istn E (pc' := 2) (ls' := [some (.ref 17), some (pw_i b), some (pw_i 0), none]) rfl rfl rfl rfl ?_
  refine pw_ld E (pc' := 3) (st' := [pw_i 0]) rfl (fun _ => rfl) ?_
  refine pw_istn E (pc' := 4) (ls' := [some (.ref 17), some (pw_i b), some (pw_i 0), some (pw_i 0)]) rfl rfl rfl rfl ?_
  have L4 : ∀ (n4 : Nat) (k4_2 : Int) (k4_3 : Int), 0 ≤ k4_2 → k4_2 ≤ 24 → 0 ≤ k4_3 → k4_3 ≤ 24 → k4_2 ≤ k4_3 → (24 - k4_3).toNat = n4 → pw X d h 62 4 [some (.ref 17), some (pw_i b), some (pw_i k4_2), some (pw_i k4_3)] [] (fun h' v => h = h' ∧ ∃ a : Int, v = .inl (some (pw_i a)) ∧ 0 ≤ a ∧ a ≤ 24) := by
    intro n4
    induction n4 using Nat.strongRecOn with
    | ind n4 ih4 =>
      intro k4_2 k4_3 k4_2a k4_2b k4_3a k4_3b hx4_0 hm4
      refine pw_ld E (pc' := 5) (st' := [pw_i k4_3]) rfl (fun _ => rfl) ?_
      refine pw_bip E (pc' := 7) rfl rfl (by decide) ?_
      refine pw_if2 E (pc' := 33) rfl (by decide) (by omega) (by omega) (by decide) (by decide) ?_ ?_
      · intro hc1
        have hc1 : (24 : Int) ≤ k4_3 := hc1
        refine pw_ld E (pc' := 34) (st' := [pw_i k4_2]) rfl (fun _ => rfl) ?_
        refine pw_iret E rfl ?_
        exact ⟨rfl, ⟨_, rfl, by omega, by omega⟩⟩
      · intro hc2
        have hc2 : ¬ ((24 : Int) ≤ k4_3) := hc2
        refine pw_ld E (pc' := 11) (st' := [pw_i k4_2]) rfl (fun _ => rfl) ?_
        refine pw_ld E (pc' := 12) (st' := [.ref 17, pw_i k4_2]) rfl (fun _ => rfl) ?_
        refine pw_ld E (pc' := 13) (st' := [pw_i k4_3, .ref 17, pw_i k4_2]) rfl (fun _ => rfl) ?_
        refine pw_ld E (pc' := 14) (st' := [pw_i b, pw_i k4_3, .ref 17, pw_i k4_2]) rfl (fun _ => rfl) ?_
        obtain ⟨f3l, f3h, -⟩ := pw_obj (c := 1) I rfl
        refine pw_call (m' := 63) (As := [.ref 17, pw_i k4_3, pw_i b]) (rest := [pw_i k4_2]) (ls'' := [some (.ref 17), some (pw_i k4_3), some (pw_i b)]) (by omega) E rfl (fun _ => pw_iV rfl rfl rfl rfl (pw_cellI f3h rfl)) (rfl : pm_ent 63 = some (3, 3, 6, 1, pmc_63)) rfl rfl (cm_63 (by omega) I (k4_3) (by omega) (by omega) (b) (by omega) (by omega)) ?_
        rintro u5 v4 ⟨rfl, x6, rfl, hx6a, hx6b⟩
        refine ⟨_, rfl, ?_⟩
        show pw X d h 62 17 [some (.ref 17), some (pw_i b), some (pw_i k4_2), some (pw_i k4_3)] [pw_i x6, pw_i k4_2] _
        refine pw_if E (pc' := 24) rfl (by decide) (by omega) (by omega) ?_ ?_
        · intro hc7
          have hc7 : x6 = (0 : Int) := hc7
          refine pw_ld E (pc' := 25) (st' := [pw_i 0, pw_i k4_2]) rfl (fun _ => rfl) ?_
          refine pw_add E (pc' := 26) rfl rfl ?_
          refine pw_istn E (pc' := 27) (ls' := [some (.ref 17), some (pw_i b), some (pw_i (k4_2 + 0)), some (pw_i k4_3)]) rfl rfl rfl rfl ?_
          refine pw_inc E (pc' := 30) (ls' := [some (.ref 17), some (pw_i b), some (pw_i (k4_2 + 0)), some (pw_i (k4_3 + 1))]) rfl rfl rfl rfl ?_
          refine pw_goto E (pc' := 4) rfl (by decide) ?_
          exact ih4 _ (by omega) (k4_2 + 0) (k4_3 + 1)  (by omega) (by omega) (by omega) (by omega) (by omega) rfl
        · intro hc8
          have hc8 : ¬ (x6 = (0 : Int)) := hc8
          refine pw_ld E (pc' := 21) (st' := [pw_i 1, pw_i k4_2]) rfl (fun _ => rfl) ?_
          refine pw_goto E (pc' := 25) rfl (by decide) ?_
          refine pw_add E (pc' := 26) rfl rfl ?_
          refine pw_istn E (pc' := 27) (ls' := [some (.ref 17), some (pw_i b), some (pw_i (k4_2 + 1)), some (pw_i k4_3)]) rfl rfl rfl rfl ?_
          refine pw_inc E (pc' := 30) (ls' := [some (.ref 17), some (pw_i b), some (pw_i (k4_2 + 1)), some (pw_i (k4_3 + 1))]) rfl rfl rfl rfl ?_
          refine pw_goto E (pc' := 4) rfl (by decide) ?_
          exact ih4 _ (by omega) (k4_2 + 1) (k4_3 + 1)  (by omega) (by omega) (by omega) (by omega) (by omega) rfl
  exact L4 _ (0) (0)  (by omega) (by omega) (by omega) (by omega) (by omega) rfl
set_option maxHeartbeats 4000000 in
theorem cm_66 {X : List (Nat × List Value)} {d : Nat} {h : pm_H} (hd : 1 ≤ d) (I : pw_I h)  : pw X d h 66 0 [some (.ref 17), none, none] [] (fun h' v => h = h' ∧ ∃ a : Int, v = .inl (some (pw_i a)) ∧ 0 ≤ a ∧ a ≤ 24) := by
  have E : pm_ent 66 = some (1, 3, 6, 0, pmc_66) := rfl
  refine pw_ld E (pc' := 1) (st' := [pw_i 0]) rfl (fun _ => rfl) ?_
  refine pw_istn E (pc' := 2) (ls' := [some (.ref 17), some (pw_i 0), none]) rfl rfl rfl rfl ?_
  refine pw_ld E (pc' := 3) (st' := [pw_i 0]) rfl (fun _ => rfl) ?_
  refine pw_istn E (pc' := 4) (ls' := [some (.ref 17), some (pw_i 0), some (pw_i 0)]) rfl rfl rfl rfl ?_
  have L4 : ∀ (n4 : Nat) (k4_1 : Int) (k4_2 : Int), 0 ≤ k4_1 → k4_1 ≤ 24 → 0 ≤ k4_2 → k4_2 ≤ 24 → k4_1 ≤ k4_2 → (24 - k4_2).toNat = n4 → pw X d h 66 4 [some (.ref 17), some (pw_i k4_1), some (pw_i k4_2)] [] (fun h' v => h = h' ∧ ∃ a : Int, v = .inl (some (pw_i a)) ∧ 0 ≤ a ∧ a ≤ 24) := by
    intro n4
    induction n4 using Nat.strongRecOn with
    | ind n4 ih4 =>
      intro k4_1 k4_2 k4_1a k4_1b k4_2a k4_2b hx4_0 hm4
      refine pw_ld E (pc' := 5) (st' := [pw_i k4_2]) rfl (fun _ => rfl) ?_
      refine pw_bip E (pc' := 7) rfl rfl (by decide) ?_
      refine pw_if2 E (pc' := 42) rfl (by decide) (by omega) (by omega) (by decide) (by decide) ?_ ?_
      · intro hc1
        have hc1 : (24 : Int) ≤ k4_2 := hc1
        refine pw_ld E (pc' := 43) (st' := [pw_i k4_1]) rfl (fun _ => rfl) ?_
        refine pw_iret E rfl ?_
        exact ⟨rfl, ⟨_, rfl, by omega, by omega⟩⟩
      · intro hc2
        have hc2 : ¬ ((24 : Int) ≤ k4_2) := hc2
        refine pw_ld E (pc' := 11) (st' := [pw_i k4_1]) rfl (fun _ => rfl) ?_
        refine pw_ld E (pc' := 12) (st' := [.ref 17, pw_i k4_1]) rfl (fun _ => rfl) ?_
        refine pw_getR (b := 18) I E (c := 1) (k := 0) (pc' := 15) rfl rfl rfl rfl rfl rfl rfl ?_
        refine pw_ld E (pc' := 16) (st' := [pw_i k4_2, .ref 18, pw_i k4_1]) rfl (fun _ => rfl) ?_
        refine pw_ald I E (c := 2) (pc' := 17) rfl rfl rfl (by decide) rfl (by decide) (by omega) (by omega) rfl (fun hf3a hf3b hf3c hf3d => ?_)
        refine pw_if E (pc' := 33) rfl (by decide) (by omega) (by omega) ?_ ?_
        · intro hc4
          have hc4 : pw_g h 2 (k4_2.toNat) = (0 : Int) := hc4
          refine pw_ld E (pc' := 34) (st' := [pw_i 0, pw_i k4_1]) rfl (fun _ => rfl) ?_
          refine pw_add E (pc' := 35) rfl rfl ?_
          refine pw_istn E (pc' := 36) (ls' := [some (.ref 17), some (pw_i (k4_1 + 0)), some (pw_i k4_2)]) rfl rfl rfl rfl ?_
          refine pw_inc E (pc' := 39) (ls' := [some (.ref 17), some (pw_i (k4_1 + 0)), some (pw_i (k4_2 + 1))]) rfl rfl rfl rfl ?_
          refine pw_goto E (pc' := 4) rfl (by decide) ?_
          exact ih4 _ (by omega) (k4_1 + 0) (k4_2 + 1)  (by omega) (by omega) (by omega) (by omega) (by omega) rfl
        · intro hc5
          have hc5 : ¬ (pw_g h 2 (k4_2.toNat) = (0 : Int)) := hc5
          refine pw_ld E (pc' := 21) (st' := [.ref 17, pw_i k4_1]) rfl (fun _ => rfl) ?_
          refine pw_getR (b := 19) I E (c := 1) (k := 1) (pc' := 24) rfl rfl rfl rfl rfl rfl rfl ?_
          refine pw_ld E (pc' := 25) (st' := [pw_i k4_2, .ref 19, pw_i k4_1]) rfl (fun _ => rfl) ?_
          refine pw_ald I E (c := 3) (pc' := 26) rfl rfl rfl (by decide) rfl (by decide) (by omega) (by omega) rfl (fun hf6a hf6b hf6c hf6d => ?_)
          refine pw_if E (pc' := 33) rfl (by decide) (by omega) (by omega) ?_ ?_
          · intro hc7
            have hc7 : pw_g h 3 (k4_2.toNat) = (0 : Int) := hc7
            refine pw_ld E (pc' := 34) (st' := [pw_i 0, pw_i k4_1]) rfl (fun _ => rfl) ?_
            refine pw_add E (pc' := 35) rfl rfl ?_
            refine pw_istn E (pc' := 36) (ls' := [some (.ref 17), some (pw_i (k4_1 + 0)), some (pw_i k4_2)]) rfl rfl rfl rfl ?_
            refine pw_inc E (pc' := 39) (ls' := [some (.ref 17), some (pw_i (k4_1 + 0)), some (pw_i (k4_2 + 1))]) rfl rfl rfl rfl ?_
            refine pw_goto E (pc' := 4) rfl (by decide) ?_
            exact ih4 _ (by omega) (k4_1 + 0) (k4_2 + 1)  (by omega) (by omega) (by omega) (by omega) (by omega) rfl
          · intro hc8
            have hc8 : ¬ (pw_g h 3 (k4_2.toNat) = (0 : Int)) := hc8
            refine pw_ld E (pc' := 30) (st' := [pw_i 1, pw_i k4_1]) rfl (fun _ => rfl) ?_
            refine pw_goto E (pc' := 34) rfl (by decide) ?_
            refine pw_add E (pc' := 35) rfl rfl ?_
            refine pw_istn E (pc' := 36) (ls' := [some (.ref 17), some (pw_i (k4_1 + 1)), some (pw_i k4_2)]) rfl rfl rfl rfl ?_
            refine pw_inc E (pc' := 39) (ls' := [some (.ref 17), some (pw_i (k4_1 + 1)), some (pw_i (k4_2 + 1))]) rfl rfl rfl rfl ?_
            refine pw_goto E (pc' := 4) rfl (by decide) ?_
            exact ih4 _ (by omega) (k4_1 + 1) (k4_2 + 1)  (by omega) (by omega) (by omega) (by omega) (by omega) rfl
  exact L4 _ (0) (0)  (by omega) (by omega) (by omega) (by omega) (by omega) rfl
set_option maxHeartbeats 4000000 in
theorem cm_1 {X : List (Nat × List Value)} {d : Nat} {h : pm_H} (hd : 1 ≤ d) (I : pw_I h) (b : Int) (hb1 : 0 ≤ b) (hb2 : b ≤ 1) (mo : Int) (hmo1 : 0 ≤ mo) (hmo2 : mo ≤ 11) (fl : Int) (hfl1 : 0 ≤ fl) (hfl2 : fl ≤ 999) (tr : Int) (htr1 : (-99) ≤ tr) (htr2 : tr ≤ 99) : pw X d h 1 0 [some (.ref 23), some (pw_i b), some (pw_i mo), some (pw_i fl), some (pw_i tr), none] [] (fun h' v => pw_I h' ∧ pw_E [8, 9] h h' ∧ v = .inl none) := by
  have E : pm_ent 1 = some (5, 6, 0, 4, pmc_1) := rfl
  have E0 : pw_E [8, 9] h h := pw_E.rf _ _
  refine pw_ld E (pc' := 1) (st' := [pw_i mo]) rfl (fun _ => rfl) ?_
  refine pw_ist E (pc' := 3) (ls' := [some (.ref 23), some (pw_i b), some (pw_i mo), some (pw_i fl), some (pw_i tr), some (pw_i mo)]) rfl rfl rfl rfl ?_
  have L3 : ∀ (n3 : Nat) (k3_5 : Int) (h3 : pm_H), pw_I h3 → pw_E [8, 9] h h3 → 0 ≤ k3_5 → k3_5 ≤ 12 → (12 - k3_5).toNat = n3 → pw X d h3 1 3 [some (.ref 23), some (pw_i b), some (pw_i mo), some (pw_i fl), some (pw_i tr), some (pw_i k3_5)] [] (fun h' v => pw_I h' ∧ pw_E [8, 9] h h' ∧ v = .inl none) := by
    intro n3
    induction n3 using Nat.strongRecOn with
    | ind n3 ih3 =>
      intro k3_5 h3 I3 E3 k3_5a k3_5b hm3
      refine pw_ld E (pc' := 5) (st' := [pw_i k3_5]) rfl (fun _ => rfl) ?_
      refine pw_bip E (pc' := 7) rfl rfl (by decide) ?_
      refine pw_if2 E (pc' := 43) rfl (by decide) (by omega) (by omega) (by decide) (by decide) ?_ ?_
      · intro hc1
        have hc1 : (12 : Int) ≤ k3_5 := hc1
        refine pw_vret E rfl ?_
        exact ⟨I3, E3, rfl⟩
      · intro hc2
        have hc2 : ¬ ((12 : Int) ≤ k3_5) := hc2
        refine pw_ld E (pc' := 11) (st' := [.ref 23]) rfl (fun _ => rfl) ?_
        refine pw_getR (b := 24) I3 E (c := 7) (k := 0) (pc' := 14) rfl rfl rfl rfl rfl rfl rfl ?_
        refine pw_ld E (pc' := 15) (st' := [pw_i b, .ref 24]) rfl (fun _ => rfl) ?_
        refine pw_bip E (pc' := 17) rfl rfl (by decide) ?_
        refine pw_mul E (pc' := 18) rfl rfl ?_
        refine pw_ld E (pc' := 20) (st' := [pw_i k3_5, pw_i (b * 12), .ref 24]) rfl (fun _ => rfl) ?_
        refine pw_add E (pc' := 21) rfl rfl ?_
        refine pw_ld E (pc' := 22) (st' := [pw_i fl, pw_i ((b * 12) + k3_5), .ref 24]) rfl (fun _ => rfl) ?_
        refine pw_ast0 I3 E (c := 8) (pc' := 23) rfl rfl rfl (by decide) rfl (by decide) (by omega) (by omega) rfl (by omega) (by omega) (by omega) (by omega) rfl ?_
        intro h3I h3E
        generalize h3w : pw_w h3 8 (((b * 12) + k3_5).toNat) (pw_i fl) = h3 at h3I h3E ⊢
        have h3F := E3.tr (h3E.wk (W' := [8, 9]) (by first | rfl | simp))
        refine pw_ld E (pc' := 24) (st' := [.ref 23]) rfl (fun _ => rfl) ?_
        refine pw_getR (b := 25) h3I E (c := 7) (k := 1) (pc' := 27) rfl rfl rfl rfl rfl rfl rfl ?_
        refine pw_ld E (pc' := 28) (st' := [pw_i b, .ref 25]) rfl (fun _ => rfl) ?_
        refine pw_bip E (pc' := 30) rfl rfl (by decide) ?_
        refine pw_mul E (pc' := 31) rfl rfl ?_
        refine pw_ld E (pc' := 33) (st' := [pw_i k3_5, pw_i (b * 12), .ref 25]) rfl (fun _ => rfl) ?_
        refine pw_add E (pc' := 34) rfl rfl ?_
        refine pw_ld E (pc' := 36) (st' := [pw_i tr, pw_i ((b * 12) + k3_5), .ref 25]) rfl (fun _ => rfl) ?_
        refine pw_ast0 h3I E (c := 9) (pc' := 37) rfl rfl rfl (by decide) rfl (by decide) (by omega) (by omega) rfl (by omega) (by omega) (by omega) (by omega) rfl ?_
        intro h4I h4E
        generalize h4w : pw_w h3 9 (((b * 12) + k3_5).toNat) (pw_i tr) = h4 at h4I h4E ⊢
        have h4F := h3F.tr (h4E.wk (W' := [8, 9]) (by first | rfl | simp))
        refine pw_inc E (pc' := 40) (ls' := [some (.ref 23), some (pw_i b), some (pw_i mo), some (pw_i fl), some (pw_i tr), some (pw_i (k3_5 + 1))]) rfl rfl rfl rfl ?_
        refine pw_goto E (pc' := 3) rfl (by decide) ?_
        exact ih3 _ (by omega) (k3_5 + 1) h4 h4I h4F (by omega) (by omega)  rfl
  exact L3 _ (mo) h I E0 (by omega) (by omega)  rfl
set_option maxHeartbeats 4000000 in
theorem cm_2 {X : List (Nat × List Value)} {d : Nat} {h : pm_H} (hd : 1 ≤ d) (I : pw_I h) (b : Int) (hb1 : 0 ≤ b) (hb2 : b ≤ 1) (mo : Int) (hmo1 : 0 ≤ mo) (hmo2 : mo ≤ 11) : pw X d h 2 0 [some (.ref 23), some (pw_i b), some (pw_i mo)] [] (fun h' v => h = h' ∧ ∃ a : Int, v = .inl (some (pw_i a)) ∧ 0 ≤ a ∧ a ≤ 999) := by
  have E : pm_ent 2 = some (3, 3, 0, 0, pmc_2) := rfl
  refine pw_ld E (pc' := 1) (st' := [.ref 23]) rfl (fun _ => rfl) ?_
  refine pw_getR (b := 24) I E (c := 7) (k := 0) (pc' := 4) rfl rfl rfl rfl rfl rfl rfl ?_
  refine pw_ld E (pc' := 5) (st' := [pw_i b, .ref 24]) rfl (fun _ => rfl) ?_
  refine pw_bip E (pc' := 7) rfl rfl (by decide) ?_
  refine pw_mul E (pc' := 8) rfl rfl ?_
  refine pw_ld E (pc' := 9) (st' := [pw_i mo, pw_i (b * 12), .ref 24]) rfl (fun _ => rfl) ?_
  refine pw_add E (pc' := 10) rfl rfl ?_
  refine pw_ald I E (c := 8) (pc' := 11) rfl rfl rfl (by decide) rfl (by decide) (by omega) (by omega) rfl (fun hf1a hf1b hf1c hf1d => ?_)
  refine pw_iret E rfl ?_
  exact ⟨rfl, ⟨_, rfl, by omega, by omega⟩⟩
set_option maxHeartbeats 4000000 in
theorem cm_3 {X : List (Nat × List Value)} {d : Nat} {h : pm_H} (hd : 1 ≤ d) (I : pw_I h) (b : Int) (hb1 : 0 ≤ b) (hb2 : b ≤ 1) (mo : Int) (hmo1 : 0 ≤ mo) (hmo2 : mo ≤ 11) : pw X d h 3 0 [some (.ref 23), some (pw_i b), some (pw_i mo)] [] (fun h' v => h = h' ∧ ∃ a : Int, v = .inl (some (pw_i a)) ∧ (-99) ≤ a ∧ a ≤ 99) := by
  have E : pm_ent 3 = some (3, 3, 0, 0, pmc_3) := rfl
  refine pw_ld E (pc' := 1) (st' := [.ref 23]) rfl (fun _ => rfl) ?_
  refine pw_getR (b := 25) I E (c := 7) (k := 1) (pc' := 4) rfl rfl rfl rfl rfl rfl rfl ?_
  refine pw_ld E (pc' := 5) (st' := [pw_i b, .ref 25]) rfl (fun _ => rfl) ?_
  refine pw_bip E (pc' := 7) rfl rfl (by decide) ?_
  refine pw_mul E (pc' := 8) rfl rfl ?_
  refine pw_ld E (pc' := 9) (st' := [pw_i mo, pw_i (b * 12), .ref 25]) rfl (fun _ => rfl) ?_
  refine pw_add E (pc' := 10) rfl rfl ?_
  refine pw_ald I E (c := 9) (pc' := 11) rfl rfl rfl (by decide) rfl (by decide) (by omega) (by omega) rfl (fun hf1a hf1b hf1c hf1d => ?_)
  refine pw_iret E rfl ?_
  exact ⟨rfl, ⟨_, rfl, by omega, by omega⟩⟩
set_option maxHeartbeats 4000000 in
theorem cm_4 {X : List (Nat × List Value)} {d : Nat} {h : pm_H} (hd : 2 ≤ d) (I : pw_I h) (b : Int) (hb1 : 0 ≤ b) (hb2 : b ≤ 1) (mo : Int) (hmo1 : 0 ≤ mo) (hmo2 : mo ≤ 11) : pw X d h 4 0 [some (.ref 23), some (pw_i b), some (pw_i mo)] [] (fun h' v => h = h' ∧ ∃ a : Int, v = .inl (some (pw_i a)) ∧ (-999) ≤ a ∧ a ≤ 999) := by
  have E : pm_ent 4 = some (3, 3, 0, 0, pmc_4) := rfl
  refine pw_ld E (pc' := 1) (st' := [pw_i mo]) rfl (fun _ => rfl) ?_
  refine pw_ld E (pc' := 2) (st' := [pw_i 1, pw_i mo]) rfl (fun _ => rfl) ?_
  refine pw_if2 E (pc' := 9) rfl (by decide) (by omega) (by omega) (by decide) (by decide) ?_ ?_
  · intro hc1
    have hc1 : (1 : Int) ≤ mo := hc1
    refine pw_ld E (pc' := 10) (st' := [.ref 23]) rfl (fun _ => rfl) ?_
    refine pw_ld E (pc' := 11) (st' := [pw_i b, .ref 23]) rfl (fun _ => rfl) ?_
    refine pw_ld E (pc' := 12) (st' := [pw_i mo, pw_i b, .ref 23]) rfl (fun _ => rfl) ?_
    obtain ⟨f2l, f2h, -⟩ := pw_obj (c := 7) I rfl
    refine pw_call (m' := 2) (As := [.ref 23, pw_i b, pw_i mo]) (rest := []) (ls'' := [some (.ref 23), some (pw_i b), some (pw_i mo)]) (by omega) E rfl (fun _ => pw_iV rfl rfl rfl rfl (pw_cellI f2h rfl)) (rfl : pm_ent 2 = some (3, 3, 0, 0, pmc_2)) rfl rfl (cm_2 (by omega) I (b) (by omega) (by omega) (mo) (by omega) (by omega)) ?_
    rintro u4 v3 ⟨rfl, x5, rfl, hx5a, hx5b⟩
    refine ⟨_, rfl, ?_⟩
    show pw X d h 4 15 [some (.ref 23), some (pw_i b), some (pw_i mo)] [pw_i x5] _
    refine pw_ld E (pc' := 16) (st' := [.ref 23, pw_i x5]) rfl (fun _ => rfl) ?_
    refine pw_ld E (pc' := 17) (st' := [pw_i b, .ref 23, pw_i x5]) rfl (fun _ => rfl) ?_
    refine pw_ld E (pc' := 18) (st' := [pw_i mo, pw_i b, .ref 23, pw_i x5]) rfl (fun _ => rfl) ?_
    refine pw_ld E (pc' := 19) (st' := [pw_i 1, pw_i mo, pw_i b, .ref 23, pw_i x5]) rfl (fun _ => rfl) ?_
    refine pw_sub E (pc' := 20) rfl rfl ?_
    obtain ⟨f6l, f6h, -⟩ := pw_obj (c := 7) I rfl
    refine pw_call (m' := 2) (As := [.ref 23, pw_i b, pw_i (mo - 1)]) (rest := [pw_i x5]) (ls'' := [some (.ref 23), some (pw_i b), some (pw_i (mo - 1))]) (by omega) E rfl (fun _ => pw_iV rfl rfl rfl rfl (pw_cellI f6h rfl)) (rfl : pm_ent 2 = some (3, 3, 0, 0, pmc_2)) rfl rfl (cm_2 (by omega) I (b) (by omega) (by omega) (mo - 1) (by omega) (by omega)) ?_
    rintro u8 v7 ⟨rfl, x9, rfl, hx9a, hx9b⟩
    refine ⟨_, rfl, ?_⟩
    show pw X d h 4 23 [some (.ref 23), some (pw_i b), some (pw_i mo)] [pw_i x9, pw_i x5] _
    refine pw_sub E (pc' := 24) rfl rfl ?_
    refine pw_iret E rfl ?_
    exact ⟨rfl, ⟨_, rfl, by omega, by omega⟩⟩
  · intro hc10
    have hc10 : ¬ ((1 : Int) ≤ mo) := hc10
    refine pw_ld E (pc' := 6) (st' := [pw_i 0]) rfl (fun _ => rfl) ?_
    refine pw_goto E (pc' := 24) rfl (by decide) ?_
    refine pw_iret E rfl ?_
    exact ⟨rfl, ⟨_, rfl, by omega, by omega⟩⟩
