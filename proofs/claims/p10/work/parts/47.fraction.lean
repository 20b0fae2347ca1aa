/-! contracts (printed by wip/tool/pwspec.py) -/
set_option maxHeartbeats 4000000 in
theorem cm_7 {X : List (Nat × List Value)} {d : Nat} {h : pm_H} (hd : 1 ≤ d) (I : pw_I h) (x : Int64) (y : Int64) : pw X d h 7 0 [some (.long x), none, some (.long y), none, none, none, none, none, none, none, none] [] (fun h' v => h = h' ∧ ∃ w : Int64, v = .inl (some (.long w))) := by
  have E : pm_ent 7 = some (2, 11, 1, 2, pmc_7) := rfl
  refine pw_ld E (pc' := 1) (st' := [.long x]) rfl (fun _ => rfl) ?_
  refine pw_lst E (pc' := 3) (ls' := [some (.long x), none, some (.long y), none, some (.long x), none, none, none, none, none, none]) rfl rfl rfl rfl ?_
  refine pw_ld E (pc' := 4) (st' := [.long y]) rfl (fun _ => rfl) ?_
  refine pw_lst E (pc' := 6) (ls' := [some (.long x), none, some (.long y), none, some (.long x), none, some (.long y), none, none, none, none]) rfl rfl rfl rfl ?_
  refine pw_ld E (pc' := 7) (st' := [pw_i 0]) rfl (fun _ => rfl) ?_
  refine pw_ist E (pc' := 9) (ls' := [some (.long x), none, some (.long y), none, some (.long x), none, some (.long y), none, some (pw_i 0), none, none]) rfl rfl rfl rfl ?_
  have L9 : ∀ (n9 : Nat) (k9_4 : Int64) (k9_6 : Int64) (k9_8 : Int) (k9_9 : Option Value), 0 ≤ k9_8 → k9_8 ≤ 100 → (100 - k9_8).toNat = n9 → pw X d h 7 9 [some (.long x), none, some (.long y), none, some (.long k9_4), none, some (.long k9_6), none, some (pw_i k9_8), k9_9, none] [] (fun h' v => h = h' ∧ ∃ w : Int64, v = .inl (some (.long w))) := by
    intro n9
    induction n9 using Nat.strongRecOn with
    | ind n9 ih9 =>
      intro k9_4 k9_6 k9_8 k9_9 k9_8a k9_8b hm9
      refine pw_ld E (pc' := 11) (st' := [pw_i k9_8]) rfl (fun _ => rfl) ?_
      refine pw_bip E (pc' := 13) rfl rfl (by decide) ?_
      refine pw_if2 E (pc' := 44) rfl (by decide) (by omega) (by omega) (by decide) (by decide) ?_ ?_
      · intro hc1
        have hc1 : (100 : Int) ≤ k9_8 := hc1
        refine pw_ld E (pc' := 46) (st' := [.long k9_4]) rfl (fun _ => rfl) ?_
        refine pw_lret E rfl ?_
        exact ⟨rfl, ⟨_, rfl⟩⟩
      · intro hc2
        have hc2 : ¬ ((100 : Int) ≤ k9_8) := hc2
        refine pw_ld E (pc' := 18) (st' := [.long k9_6]) rfl (fun _ => rfl) ?_
        refine pw_ld E (pc' := 19) (st' := [.long (Int64.ofNat 0), .long k9_6]) rfl (fun _ => rfl) ?_
        refine pw_lcmp E (pc' := 20) rfl rfl (fun c3 hc3 => ?_)
        refine pw_if E (pc' := 44) rfl (by decide) (by omega) (by omega) ?_ ?_
        · intro hc4
          have hc4 : c3 = (0 : Int) := hc4
          refine pw_ld E (pc' := 46) (st' := [.long k9_4]) rfl (fun _ => rfl) ?_
          refine pw_lret E rfl ?_
          exact ⟨rfl, ⟨_, rfl⟩⟩
        · intro hc5
          have hc5 : ¬ (c3 = (0 : Int)) := hc5
          refine pw_ld E (pc' := 25) (st' := [.long k9_4]) rfl (fun _ => rfl) ?_
          refine pw_ld E (pc' := 27) (st' := [.long k9_6, .long k9_4]) rfl (fun _ => rfl) ?_
          refine pw_ldivA E (pc' := 28) rfl rfl rfl (pw_nz hc3 (by omega)) ?_
          refine pw_lst E (pc' := 30) (ls' := [some (.long x), none, some (.long y), none, some (.long k9_4), none, some (.long k9_6), none, some (pw_i k9_8), some (.long (k9_4 - k9_4 / k9_6 * k9_6)), none]) rfl rfl rfl rfl ?_
          refine pw_ld E (pc' := 32) (st' := [.long k9_6]) rfl (fun _ => rfl) ?_
          refine pw_lst E (pc' := 34) (ls' := [some (.long x), none, some (.long y), none, some (.long k9_6), none, some (.long k9_6), none, some (pw_i k9_8), some (.long (k9_4 - k9_4 / k9_6 * k9_6)), none]) rfl rfl rfl rfl ?_
          refine pw_ld E (pc' := 36) (st' := [.long (k9_4 - k9_4 / k9_6 * k9_6)]) rfl (fun _ => rfl) ?_
          refine pw_lst E (pc' := 38) (ls' := [some (.long x), none, some (.long y), none, some (.long k9_6), none, some (.long (k9_4 - k9_4 / k9_6 * k9_6)), none, some (pw_i k9_8), some (.long (k9_4 - k9_4 / k9_6 * k9_6)), none]) rfl rfl rfl rfl ?_
          refine pw_inc E (pc' := 41) (ls' := [some (.long x), none, some (.long y), none, some (.long k9_6), none, some (.long (k9_4 - k9_4 / k9_6 * k9_6)), none, some (pw_i (k9_8 + 1)), some (.long (k9_4 - k9_4 / k9_6 * k9_6)), none]) rfl rfl rfl rfl ?_
          refine pw_goto E (pc' := 9) rfl (by decide) ?_
          exact ih9 _ (by omega) (k9_6) (k9_4 - k9_4 / k9_6 * k9_6) (k9_8 + 1) (some (.long (k9_4 - k9_4 / k9_6 * k9_6)))  (by omega) (by omega)  rfl
  exact L9 _ (x) (y) (0) (none)  (by omega) (by omega)  rfl
set_option maxHeartbeats 4000000 in
theorem cm_6 {X : List (Nat × List Value)} {d : Nat} {h : pm_H} (hd : 2 ≤ d) (I : pw_I h) (c : Nat) (hc : pw_Fr c) (x : Int64) (y : Int64) : pw X d h 6 0 [some (.ref (16 + c)), some (.long x), none, some (.long y), none, none, none] [] (fun h' v => pw_I h' ∧ pw_E [c] h h' ∧ v = .inl none) := by
  have E : pm_ent 6 = some (3, 7, 1, 4, pmc_6) := rfl
  have E0 : pw_E [c] h h := pw_E.rf _ _
  refine pw_ld E (pc' := 1) (st' := [.long x]) rfl (fun _ => rfl) ?_
  refine pw_labs E rfl rfl rfl ?_
  refine pw_ld E (pc' := 5) (st' := [.long y, .long (if 0 < x then x else -x)]) rfl (fun _ => rfl) ?_
  refine pw_call (m' := 7) (As := [.long (if 0 < x then x else -x), .long y]) (rest := []) (ls'' := [some (.long (if 0 < x then x else -x)), none, some (.long y), none, none, none, none, none, none, none, none]) (by omega) E rfl (fun _ => pw_iS rfl rfl rfl) (rfl : pm_ent 7 = some (2, 11, 1, 2, pmc_7)) rfl rfl (cm_7 (by omega) I (if 0 < x then x else -x) (y)) ?_
  rintro u2 v1 ⟨rfl, w3, rfl⟩
  refine ⟨_, rfl, ?_⟩
  show pw X d h 6 8 [some (.ref (16 + c)), some (.long x), none, some (.long y), none, none, none] [.long w3] _
  refine pw_lst E (pc' := 10) (ls' := [some (.ref (16 + c)), some (.long x), none, some (.long y), none, some (.long w3), none]) rfl rfl rfl rfl ?_
  refine pw_ld E (pc' := 11) (st' := [.long y]) rfl (fun _ => rfl) ?_
  refine pw_ld E (pc' := 12) (st' := [.long (Int64.ofNat 0), .long y]) rfl (fun _ => rfl) ?_
  refine pw_lcmp E (pc' := 13) rfl rfl (fun c4 hc4 => ?_)
  refine pw_if E (pc' := 23) rfl (by decide) (by omega) (by omega) ?_ ?_
  · intro hc5
    have hc5 : c4 ≤ (0 : Int) := hc5
    refine pw_vret E rfl ?_
    exact ⟨I, E0, rfl⟩
  · intro hc6
    have hc6 : ¬ (c4 ≤ (0 : Int)) := hc6
    refine pw_ld E (pc' := 18) (st' := [.long w3]) rfl (fun _ => rfl) ?_
    refine pw_ld E (pc' := 19) (st' := [.long (Int64.ofNat 0), .long w3]) rfl (fun _ => rfl) ?_
    refine pw_lcmp E (pc' := 20) rfl rfl (fun c7 hc7 => ?_)
    refine pw_if E (pc' := 24) rfl (by decide) (by omega) (by omega) ?_ ?_
    · intro hc8
      have hc8 : (0 : Int) < c7 := hc8
      refine pw_ld E (pc' := 25) (st' := [.ref (16 + c)]) rfl (fun _ => rfl) ?_
      refine pw_ld E (pc' := 26) (st' := [.long x, .ref (16 + c)]) rfl (fun _ => rfl) ?_
      refine pw_ld E (pc' := 28) (st' := [.long w3, .long x, .ref (16 + c)]) rfl (fun _ => rfl) ?_
      refine pw_ldivA E (pc' := 29) rfl rfl rfl (pw_nz hc7 (by omega)) ?_
      refine pw_putL I E (c := c) (k := 0) (pc' := 32) rfl rfl (pw_Fr_o hc) rfl rfl rfl ?_
      intro h10I h10E
      generalize h10w : pw_w h c 0 (.long (x / w3)) = h10 at h10I h10E ⊢
      have h10F := E0.tr (h10E.wk (W' := [c]) (by first | rfl | simp))
      refine pw_ld E (pc' := 33) (st' := [.ref (16 + c)]) rfl (fun _ => rfl) ?_
      refine pw_ld E (pc' := 34) (st' := [.long y, .ref (16 + c)]) rfl (fun _ => rfl) ?_
      refine pw_ld E (pc' := 36) (st' := [.long w3, .long y, .ref (16 + c)]) rfl (fun _ => rfl) ?_
      refine pw_ldivA E (pc' := 37) rfl rfl rfl (pw_nz hc7 (by omega)) ?_
      refine pw_putL h10I E (c := c) (k := 1) (pc' := 40) rfl rfl (pw_Fr_o hc) rfl rfl rfl ?_
      intro h12I h12E
      generalize h12w : pw_w h10 c 1 (.long (y / w3)) = h12 at h12I h12E ⊢
      have h12F := h10F.tr (h12E.wk (W' := [c]) (by first | rfl | simp))
      refine pw_vret E rfl ?_
      exact ⟨h12I, h12F, rfl⟩
    · intro hc13
      have hc13 : ¬ ((0 : Int) < c7) := hc13
      refine pw_vret E rfl ?_
      exact ⟨I, E0, rfl⟩
set_option maxHeartbeats 4000000 in
theorem cm_327 {X : List (Nat × List Value)} {d : Nat} {h : pm_H} (hd : 1 ≤ d) (I : pw_I h) (x : Int) (hx1 : (-2147483648) ≤ x) (hx2 : x ≤ 2147483647) (y : Int) (hy1 : (-2147483648) ≤ y) (hy2 : y ≤ 2147483647) : pw X d h 327 0 [some (pw_i x), some (pw_i y)] [] (fun h' v => h = h' ∧ ∃ a : Int, v = .inl (some (pw_i a)) ∧ (-1) ≤ a ∧ a ≤ 1) := by
  have E : pm_ent 327 = some (2, 2, 15, 0, pmc_327) := rfl
  refine pw_ld E (pc' := 1) (st' := [pw_i x]) rfl (fun _ => rfl) ?_
  refine pw_ld E (pc' := 2) (st' := [pw_i y, pw_i x]) rfl (fun _ => rfl) ?_
  refine pw_if2 E (pc' := 9) rfl (by decide) (by omega) (by omega) (by omega) (by omega) ?_ ?_
  · intro hc1
    have hc1 : y ≤ x := hc1
    refine pw_ld E (pc' := 10) (st' := [pw_i x]) rfl (fun _ => rfl) ?_
    refine pw_ld E (pc' := 11) (st' := [pw_i y, pw_i x]) rfl (fun _ => rfl) ?_
    refine pw_if2 E (pc' := 18) rfl (by decide) (by omega) (by omega) (by omega) (by omega) ?_ ?_
    · intro hc2
      have hc2 : x ≠ y := hc2
      refine pw_ld E (pc' := 19) (st' := [pw_i 1]) rfl (fun _ => rfl) ?_
      refine pw_iret E rfl ?_
      exact ⟨rfl, ⟨_, rfl, by omega, by omega⟩⟩
    · intro hc3
      have hc3 : ¬ (x ≠ y) := hc3
      refine pw_ld E (pc' := 15) (st' := [pw_i 0]) rfl (fun _ => rfl) ?_
      refine pw_goto E (pc' := 19) rfl (by decide) ?_
      refine pw_iret E rfl ?_
      exact ⟨rfl, ⟨_, rfl, by omega, by omega⟩⟩
  · intro hc4
    have hc4 : ¬ (y ≤ x) := hc4
    refine pw_ld E (pc' := 6) (st' := [pw_i ((-1))]) rfl (fun _ => rfl) ?_
    refine pw_goto E (pc' := 19) rfl (by decide) ?_
    refine pw_iret E rfl ?_
    exact ⟨rfl, ⟨_, rfl, by omega, by omega⟩⟩
set_option maxHeartbeats 4000000 in
theorem cm_328 {X : List (Nat × List Value)} {d : Nat} {h : pm_H} (hd : 1 ≤ d) (I : pw_I h) (x : Int64) (y : Int64) : pw X d h 328 0 [some (.long x), none, some (.long y), none] [] (fun h' v => h = h' ∧ ∃ a : Int, v = .inl (some (pw_i a)) ∧ (-1) ≤ a ∧ a ≤ 1) := by
  have E : pm_ent 328 = some (2, 4, 16, 0, pmc_328) := rfl
  refine pw_ld E (pc' := 1) (st' := [.long x]) rfl (fun _ => rfl) ?_
  refine pw_ld E (pc' := 2) (st' := [.long y, .long x]) rfl (fun _ => rfl) ?_
  refine pw_lcmp E (pc' := 3) rfl rfl (fun c1 hc1 => ?_)
  refine pw_if E (pc' := 10) rfl (by decide) (by omega) (by omega) ?_ ?_
  · intro hc2
    have hc2 : (0 : Int) ≤ c1 := hc2
    refine pw_ld E (pc' := 11) (st' := [.long x]) rfl (fun _ => rfl) ?_
    refine pw_ld E (pc' := 12) (st' := [.long y, .long x]) rfl (fun _ => rfl) ?_
    refine pw_lcmp E (pc' := 13) rfl rfl (fun c3 hc3 => ?_)
    refine pw_if E (pc' := 20) rfl (by decide) (by omega) (by omega) ?_ ?_
    · intro hc4
      have hc4 : c3 ≠ (0 : Int) := hc4
      refine pw_ld E (pc' := 21) (st' := [pw_i 1]) rfl (fun _ => rfl) ?_
      refine pw_iret E rfl ?_
      exact ⟨rfl, ⟨_, rfl, by omega, by omega⟩⟩
    · intro hc5
      have hc5 : ¬ (c3 ≠ (0 : Int)) := hc5
      refine pw_ld E (pc' := 17) (st' := [pw_i 0]) rfl (fun _ => rfl) ?_
      refine pw_goto E (pc' := 21) rfl (by decide) ?_
      refine pw_iret E rfl ?_
      exact ⟨rfl, ⟨_, rfl, by omega, by omega⟩⟩
  · intro hc6
    have hc6 : ¬ ((0 : Int) ≤ c1) := hc6
    refine pw_ld E (pc' := 7) (st' := [pw_i ((-1))]) rfl (fun _ => rfl) ?_
    refine pw_goto E (pc' := 21) rfl (by decide) ?_
    refine pw_iret E rfl ?_
    exact ⟨rfl, ⟨_, rfl, by omega, by omega⟩⟩
set_option maxHeartbeats 4000000 in
theorem cm_8 {X : List (Nat × List Value)} {d : Nat} {h : pm_H} (hd : 2 ≤ d) (I : pw_I h) (c : Nat) (hc : pw_Fr c) : pw X d h 8 0 [some (.ref (16 + c))] [] (fun h' v => h = h' ∧ ∃ a : Int, v = .inl (some (pw_i a)) ∧ (-1) ≤ a ∧ a ≤ 1) := by
  have E : pm_ent 8 = some (1, 1, 1, 0, pmc_8) := rfl
  refine pw_ld E (pc' := 1) (st' := [.ref (16 + c)]) rfl (fun _ => rfl) ?_
  refine pw_getL I E (c := c) (k := 0) (pc' := 4) rfl rfl (pw_Fr_o hc) rfl rfl rfl ?_
  refine pw_ld E (pc' := 5) (st' := [.long (Int64.ofNat 0), .long (pw_gl h c 0)]) rfl (fun _ => rfl) ?_
  refine pw_call (m' := 328) (As := [.long (pw_gl h c 0), .long (Int64.ofNat 0)]) (rest := []) (ls'' := [some (.long (pw_gl h c 0)), none, some (.long (Int64.ofNat 0)), none]) (by omega) E rfl (fun _ => pw_iS rfl rfl rfl) (rfl : pm_ent 328 = some (2, 4, 16, 0, pmc_328)) rfl rfl (cm_328 (by omega) I (pw_gl h c 0) (Int64.ofNat 0)) ?_
  rintro u2 v1 ⟨rfl, x3, rfl, hx3a, hx3b⟩
  refine ⟨_, rfl, ?_⟩
  show pw X d h 8 8 [some (.ref (16 + c))] [pw_i x3] _
  refine pw_iret E rfl ?_
  exact ⟨rfl, ⟨_, rfl, by omega, by omega⟩⟩
set_option maxHeartbeats 4000000 in
theorem cm_9 {X : List (Nat × List Value)} {d : Nat} {h : pm_H} (hd : 1 ≤ d) (I : pw_I h) (c : Nat) (hc : pw_Fr c) (n : Int) (hn1 : (-2147483648) ≤ n) (hn2 : n ≤ 2147483647) : pw X d h 9 0 [some (.ref (16 + c)), some (pw_i n)] [] (fun h' v => h = h' ∧ ∃ w : Int64, v = .inl (some (.long w))) := by
  have E : pm_ent 9 = some (2, 2, 1, 2, pmc_9) := rfl
  refine pw_ld E (pc' := 1) (st' := [pw_i n]) rfl (fun _ => rfl) ?_
  refine pw_if E (pc' := 11) rfl (by decide) (by omega) (by omega) ?_ ?_
  · intro hc1
    have hc1 : n ≠ (0 : Int) := hc1
    refine pw_ld E (pc' := 12) (st' := [.ref (16 + c)]) rfl (fun _ => rfl) ?_
    refine pw_getL I E (c := c) (k := 1) (pc' := 15) rfl rfl (pw_Fr_o hc) rfl rfl rfl ?_
    refine pw_lret E rfl ?_
    exact ⟨rfl, ⟨_, rfl⟩⟩
  · intro hc2
    have hc2 : ¬ (n ≠ (0 : Int)) := hc2
    refine pw_ld E (pc' := 5) (st' := [.ref (16 + c)]) rfl (fun _ => rfl) ?_
    refine pw_getL I E (c := c) (k := 0) (pc' := 8) rfl rfl (pw_Fr_o hc) rfl rfl rfl ?_
    refine pw_goto E (pc' := 15) rfl (by decide) ?_
    refine pw_lret E rfl ?_
    exact ⟨rfl, ⟨_, rfl⟩⟩
set_option maxHeartbeats 4000000 in
theorem cm_10 {X : List (Nat × List Value)} {d : Nat} {h : pm_H} (hd : 1 ≤ d) (I : pw_I h) (c : Nat) (hc : pw_Fr c) : pw X d h 10 0 [some (.ref (16 + c))] [] (fun h' v => pw_I h' ∧ pw_E [c] h h' ∧ v = .inl none) := by
  have E : pm_ent 10 = some (1, 1, 1, 4, pmc_10) := rfl
  have E0 : pw_E [c] h h := pw_E.rf _ _
  refine pw_ld E (pc' := 1) (st' := [.ref (16 + c)]) rfl (fun _ => rfl) ?_
  refine pw_ld E (pc' := 2) (st' := [.ref (16 + c), .ref (16 + c)]) rfl (fun _ => rfl) ?_
  refine pw_getL I E (c := c) (k := 0) (pc' := 5) rfl rfl (pw_Fr_o hc) rfl rfl rfl ?_
  refine pw_labs E rfl rfl rfl ?_
  refine pw_putL I E (c := c) (k := 0) (pc' := 11) rfl rfl (pw_Fr_o hc) rfl rfl rfl ?_
  intro h1I h1E
  generalize h1w : pw_w h c 0 (.long (if 0 < (pw_gl h c 0) then (pw_gl h c 0) else -(pw_gl h c 0))) = h1 at h1I h1E ⊢
  have h1F := E0.tr (h1E.wk (W' := [c]) (by first | rfl | simp))
  refine pw_vret E rfl ?_
  exact ⟨h1I, h1F, rfl⟩
set_option maxHeartbeats 4000000 in
theorem cm_11 {X : List (Nat × List Value)} {d : Nat} {h : pm_H} (hd : 1 ≤ d) (I : pw_I h) (c : Nat) (hc : pw_Fr c) (c0 : Nat) (hc0 : pw_Fr c0) : pw X d h 11 0 [some (.ref (16 + c)), some (.ref (16 + c0))] [] (fun h' v => h = h' ∧ ∃ a : Int, v = .inl (some (pw_i a)) ∧ 0 ≤ a ∧ a ≤ 1) := by
  have E : pm_ent 11 = some (2, 2, 1, 1, pmc_11) := rfl
  refine pw_ld E (pc' := 1) (st' := [.ref (16 + c)]) rfl (fun _ => rfl) ?_
  refine pw_getL I E (c := c) (k := 0) (pc' := 4) rfl rfl (pw_Fr_o hc) rfl rfl rfl ?_
  refine pw_ld E (pc' := 5) (st' := [.ref (16 + c0), .long (pw_gl h c 0)]) rfl (fun _ => rfl) ?_
  refine pw_getL I E (c := c0) (k := 1) (pc' := 8) rfl rfl (pw_Fr_o hc0) rfl rfl rfl ?_
  refine pw_ld E (pc' := 9) (st' := [.long ((pw_gl h c 0) * (pw_gl h c0 1))]) rfl (fun _ => rfl) ?_
  refine pw_ld E (pc' := 10) (st' := [.ref (16 + c0), .long ((pw_gl h c 0) * (pw_gl h c0 1))]) rfl (fun _ => rfl) ?_
  refine pw_getL I E (c := c0) (k := 0) (pc' := 13) rfl rfl (pw_Fr_o hc0) rfl rfl rfl ?_
  refine pw_ld E (pc' := 14) (st' := [.ref (16 + c), .long (pw_gl h c0 0), .long ((pw_gl h c 0) * (pw_gl h c0 1))]) rfl (fun _ => rfl) ?_
  refine pw_getL I E (c := c) (k := 1) (pc' := 17) rfl rfl (pw_Fr_o hc) rfl rfl rfl ?_
  refine pw_ld E (pc' := 18) (st' := [.long ((pw_gl h c0 0) * (pw_gl h c 1)), .long ((pw_gl h c 0) * (pw_gl h c0 1))]) rfl (fun _ => rfl) ?_
  refine pw_lcmp E (pc' := 19) rfl rfl (fun c1 hc1 => ?_)
  refine pw_if E (pc' := 26) rfl (by decide) (by omega) (by omega) ?_ ?_
  · intro hc2
    have hc2 : (0 : Int) ≤ c1 := hc2
    refine pw_ld E (pc' := 27) (st' := [pw_i 0]) rfl (fun _ => rfl) ?_
    refine pw_zret E rfl (by omega) ?_
    exact ⟨rfl, ⟨_, rfl, by omega, by omega⟩⟩
  · intro hc3
    have hc3 : ¬ ((0 : Int) ≤ c1) := hc3
    refine pw_ld E (pc' := 23) (st' := [pw_i 1]) rfl (fun _ => rfl) ?_
    refine pw_goto E (pc' := 27) rfl (by decide) ?_
    refine pw_zret E rfl (by omega) ?_
    exact ⟨rfl, ⟨_, rfl, by omega, by omega⟩⟩
set_option maxHeartbeats 4000000 in
theorem cm_12 {X : List (Nat × List Value)} {d : Nat} {h : pm_H} (hd : 1 ≤ d) (I : pw_I h) (c : Nat) (hc : pw_Fr c) (c0 : Nat) (hc0 : pw_Fr c0) : pw X d h 12 0 [some (.ref (16 + c)), some (.ref (16 + c0))] [] (fun h' v => pw_I h' ∧ pw_E [c] h h' ∧ v = .inl none) := by
  have E : pm_ent 12 = some (2, 2, 1, 4, pmc_12) := rfl
  have E0 : pw_E [c] h h := pw_E.rf _ _
  refine pw_ld E (pc' := 1) (st' := [.ref (16 + c)]) rfl (fun _ => rfl) ?_
  refine pw_ld E (pc' := 2) (st' := [.ref (16 + c0), .ref (16 + c)]) rfl (fun _ => rfl) ?_
  refine pw_getL I E (c := c0) (k := 0) (pc' := 5) rfl rfl (pw_Fr_o hc0) rfl rfl rfl ?_
  refine pw_putL I E (c := c) (k := 0) (pc' := 8) rfl rfl (pw_Fr_o hc) rfl rfl rfl ?_
  intro h1I h1E
  generalize h1w : pw_w h c 0 (.long (pw_gl h c0 0)) = h1 at h1I h1E ⊢
  have h1F := E0.tr (h1E.wk (W' := [c]) (by first | rfl | simp))
  refine pw_ld E (pc' := 9) (st' := [.ref (16 + c)]) rfl (fun _ => rfl) ?_
  refine pw_ld E (pc' := 10) (st' := [.ref (16 + c0), .ref (16 + c)]) rfl (fun _ => rfl) ?_
  refine pw_getL h1I E (c := c0) (k := 1) (pc' := 13) rfl rfl (pw_Fr_o hc0) rfl rfl rfl ?_
  refine pw_putL h1I E (c := c) (k := 1) (pc' := 16) rfl rfl (pw_Fr_o hc) rfl rfl rfl ?_
  intro h2I h2E
  generalize h2w : pw_w h1 c 1 (.long (pw_gl h1 c0 1)) = h2 at h2I h2E ⊢
  have h2F := h1F.tr (h2E.wk (W' := [c]) (by first | rfl | simp))
  refine pw_vret E rfl ?_
  exact ⟨h2I, h2F, rfl⟩
set_option maxHeartbeats 4000000 in
theorem cm_13 {X : List (Nat × List Value)} {d : Nat} {h : pm_H} (hd : 1 ≤ d) (I : pw_I h) (c : Nat) (hc : pw_Fr c) (x : Int64) (y : Int64) : pw X d h 13 0 [some (.ref (16 + c)), some (.long x), none, some (.long y), none] [] (fun h' v => h = h' ∧ ∃ a : Int, v = .inl (some (pw_i a)) ∧ 0 ≤ a ∧ a ≤ 1) := by
  have E : pm_ent 13 = some (3, 5, 1, 1, pmc_13) := rfl
  refine pw_ld E (pc' := 1) (st' := [.ref (16 + c)]) rfl (fun _ => rfl) ?_
  refine pw_getL I E (c := c) (k := 0) (pc' := 4) rfl rfl (pw_Fr_o hc) rfl rfl rfl ?_
  refine pw_ld E (pc' := 5) (st' := [.long y, .long (pw_gl h c 0)]) rfl (fun _ => rfl) ?_
  refine pw_ld E (pc' := 6) (st' := [.long ((pw_gl h c 0) * y)]) rfl (fun _ => rfl) ?_
  refine pw_ld E (pc' := 7) (st' := [.long x, .long ((pw_gl h c 0) * y)]) rfl (fun _ => rfl) ?_
  refine pw_ld E (pc' := 8) (st' := [.ref (16 + c), .long x, .long ((pw_gl h c 0) * y)]) rfl (fun _ => rfl) ?_
  refine pw_getL I E (c := c) (k := 1) (pc' := 11) rfl rfl (pw_Fr_o hc) rfl rfl rfl ?_
  refine pw_ld E (pc' := 12) (st' := [.long (x * (pw_gl h c 1)), .long ((pw_gl h c 0) * y)]) rfl (fun _ => rfl) ?_
  refine pw_lcmp E (pc' := 13) rfl rfl (fun c1 hc1 => ?_)
  refine pw_if E (pc' := 20) rfl (by decide) (by omega) (by omega) ?_ ?_
  · intro hc2
    have hc2 : c1 < (0 : Int) := hc2
    refine pw_ld E (pc' := 21) (st' := [pw_i 0]) rfl (fun _ => rfl) ?_
    refine pw_zret E rfl (by omega) ?_
    exact ⟨rfl, ⟨_, rfl, by omega, by omega⟩⟩
  · intro hc3
    have hc3 : ¬ (c1 < (0 : Int)) := hc3
    refine pw_ld E (pc' := 17) (st' := [pw_i 1]) rfl (fun _ => rfl) ?_
    refine pw_goto E (pc' := 21) rfl (by decide) ?_
    refine pw_zret E rfl (by omega) ?_
    exact ⟨rfl, ⟨_, rfl, by omega, by omega⟩⟩
set_option maxHeartbeats 4000000 in
theorem cm_14 {X : List (Nat × List Value)} {d : Nat} {h : pm_H} (hd : 3 ≤ d) (I : pw_I h) (c : Nat) (hc : pw_Fr c) (c0 : Nat) (hc0 : pw_Fr c0) : pw X d h 14 0 [some (.ref (16 + c)), some (.ref (16 + c0))] [] (fun h' v => pw_I h' ∧ pw_E [c] h h' ∧ v = .inl none) := by
  have E : pm_ent 14 = some (2, 2, 1, 4, pmc_14) := rfl
  have E0 : pw_E [c] h h := pw_E.rf _ _
  refine pw_ld E (pc' := 1) (st' := [.ref (16 + c)]) rfl (fun _ => rfl) ?_
  refine pw_ld E (pc' := 2) (st' := [.ref (16 + c), .ref (16 + c)]) rfl (fun _ => rfl) ?_
  refine pw_getL I E (c := c) (k := 0) (pc' := 5) rfl rfl (pw_Fr_o hc) rfl rfl rfl ?_
  refine pw_ld E (pc' := 6) (st' := [.ref (16 + c0), .long (pw_gl h c 0), .ref (16 + c)]) rfl (fun _ => rfl) ?_
  refine pw_getL I E (c := c0) (k := 1) (pc' := 9) rfl rfl (pw_Fr_o hc0) rfl rfl rfl ?_
  refine pw_ld E (pc' := 10) (st' := [.long ((pw_gl h c 0) * (pw_gl h c0 1)), .ref (16 + c)]) rfl (fun _ => rfl) ?_
  refine pw_ld E (pc' := 11) (st' := [.ref (16 + c0), .long ((pw_gl h c 0) * (pw_gl h c0 1)), .ref (16 + c)]) rfl (fun _ => rfl) ?_
  refine pw_getL I E (c := c0) (k := 0) (pc' := 14) rfl rfl (pw_Fr_o hc0) rfl rfl rfl ?_
  refine pw_ld E (pc' := 15) (st' := [.ref (16 + c), .long (pw_gl h c0 0), .long ((pw_gl h c 0) * (pw_gl h c0 1)), .ref (16 + c)]) rfl (fun _ => rfl) ?_
  refine pw_getL I E (c := c) (k := 1) (pc' := 18) rfl rfl (pw_Fr_o hc) rfl rfl rfl ?_
  refine pw_ld E (pc' := 19) (st' := [.long ((pw_gl h c0 0) * (pw_gl h c 1)), .long ((pw_gl h c 0) * (pw_gl h c0 1)), .ref (16 + c)]) rfl (fun _ => rfl) ?_
  refine pw_ld E (pc' := 20) (st' := [.long (((pw_gl h c 0) * (pw_gl h c0 1)) - ((pw_gl h c0 0) * (pw_gl h c 1))), .ref (16 + c)]) rfl (fun _ => rfl) ?_
  refine pw_ld E (pc' := 21) (st' := [.ref (16 + c), .long (((pw_gl h c 0) * (pw_gl h c0 1)) - ((pw_gl h c0 0) * (pw_gl h c 1))), .ref (16 + c)]) rfl (fun _ => rfl) ?_
  refine pw_getL I E (c := c) (k := 1) (pc' := 24) rfl rfl (pw_Fr_o hc) rfl rfl rfl ?_
  refine pw_ld E (pc' := 25) (st' := [.ref (16 + c0), .long (pw_gl h c 1), .long (((pw_gl h c 0) * (pw_gl h c0 1)) - ((pw_gl h c0 0) * (pw_gl h c 1))), .ref (16 + c)]) rfl (fun _ => rfl) ?_
  refine pw_getL I E (c := c0) (k := 1) (pc' := 28) rfl rfl (pw_Fr_o hc0) rfl rfl rfl ?_
  refine pw_ld E (pc' := 29) (st' := [.long ((pw_gl h c 1) * (pw_gl h c0 1)), .long (((pw_gl h c 0) * (pw_gl h c0 1)) - ((pw_gl h c0 0) * (pw_gl h c 1))), .ref (16 + c)]) rfl (fun _ => rfl) ?_
  obtain ⟨f1l, f1h, -⟩ := pw_obj (c := c) I (pw_Fr_o hc)
  refine pw_call (m' := 6) (As := [.ref (16 + c), .long (((pw_gl h c 0) * (pw_gl h c0 1)) - ((pw_gl h c0 0) * (pw_gl h c 1))), .long ((pw_gl h c 1) * (pw_gl h c0 1))]) (rest := []) (ls'' := [some (.ref (16 + c)), some (.long (((pw_gl h c 0) * (pw_gl h c0 1)) - ((pw_gl h c0 0) * (pw_gl h c 1)))), none, some (.long ((pw_gl h c 1) * (pw_gl h c0 1))), none, none, none]) (by omega) E rfl (fun _ => pw_iV rfl rfl rfl rfl (pw_cellI f1h rfl)) (rfl : pm_ent 6 = some (3, 7, 1, 4, pmc_6)) rfl rfl (cm_6 (by omega) I c hc (((pw_gl h c 0) * (pw_gl h c0 1)) - ((pw_gl h c0 0) * (pw_gl h c 1))) ((pw_gl h c 1) * (pw_gl h c0 1))) ?_
  rintro h2 v3 ⟨h2I, h2E, rfl⟩
  refine ⟨_, rfl, ?_⟩
  have h2F := E0.tr (h2E.wk (W' := [c]) (by first | rfl | simp))
  show pw X d h2 14 32 [some (.ref (16 + c)), some (.ref (16 + c0))] [] _
  refine pw_vret E rfl ?_
  exact ⟨h2I, h2F, rfl⟩
set_option maxHeartbeats 4000000 in
theorem cm_36 {X : List (Nat × List Value)} {d : Nat} {h : pm_H} (hd : 1 ≤ d) (I : pw_I h)  : pw X d h 36 0 [some (.ref 116)] [] (fun h' v => h = h' ∧ ∃ a : Int, v = .inl (some (pw_i a)) ∧ 0 ≤ a ∧ a ≤ 1 ∧ ((a = 1 ∧ 20 ≤ pw_g h 100 3) ∨ (a = 0 ∧ pw_g h 100 3 < 20))) := by
  have E : pm_ent 36 = some (1, 1, 4, 1, pmc_36) := rfl
  refine pw_ld E (pc' := 1) (st' := [.ref 116]) rfl (fun _ => rfl) ?_
  refine pw_getI I E (c := 100) (k := 3) (pc' := 4) rfl rfl rfl rfl rfl rfl (fun hf1a hf1b hf1c hf1d => ?_)
  refine pw_bip E (pc' := 6) rfl rfl (by decide) ?_
  refine pw_if2 E (pc' := 13) rfl (by decide) (by omega) (by omega) (by decide) (by decide) ?_ ?_
  · intro hc2
    have hc2 : pw_g h 100 3 < (20 : Int) := hc2
    refine pw_ld E (pc' := 14) (st' := [pw_i 0]) rfl (fun _ => rfl) ?_
    refine pw_zret E rfl (by omega) ?_
    exact ⟨rfl, ⟨_, rfl, by omega, by omega, by omega⟩⟩
  · intro hc3
    have hc3 : ¬ (pw_g h 100 3 < (20 : Int)) := hc3
    refine pw_ld E (pc' := 10) (st' := [pw_i 1]) rfl (fun _ => rfl) ?_
    refine pw_goto E (pc' := 14) rfl (by decide) ?_
    refine pw_zret E rfl (by omega) ?_
    exact ⟨rfl, ⟨_, rfl, by omega, by omega, by omega⟩⟩
set_option maxHeartbeats 4000000 in
theorem cm_40 {X : List (Nat × List Value)} {d : Nat} {h : pm_H} (hd : 1 ≤ d) (I : pw_I h)  : pw X d h 40 0 [some (.ref 116)] [] (fun h' v => h = h' ∧ ∃ a : Int, v = .inl (some (pw_i a)) ∧ 0 ≤ a ∧ a ≤ 20) := by
  have E : pm_ent 40 = some (1, 1, 4, 0, pmc_40) := rfl
  refine pw_ld E (pc' := 1) (st' := [.ref 116]) rfl (fun _ => rfl) ?_
  refine pw_getI I E (c := 100) (k := 3) (pc' := 4) rfl rfl rfl rfl rfl rfl (fun hf1a hf1b hf1c hf1d => ?_)
  refine pw_iret E rfl ?_
  exact ⟨rfl, ⟨_, rfl, by omega, by omega⟩⟩
set_option maxHeartbeats 4000000 in
theorem cm_42 {X : List (Nat × List Value)} {d : Nat} {h : pm_H} (hd : 1 ≤ d) (I : pw_I h)  : pw X d h 42 0 [some (.ref 116), none, none] [] (fun h' v => h = h' ∧ ∃ a : Int, v = .inl (some (pw_i a)) ∧ (-2147483648) ≤ a ∧ a ≤ 2147483647) := by
  have E : pm_ent 42 = some (1, 3, 4, 0, pmc_42) := rfl
  refine pw_ld E (pc' := 1) (st' := [pw_i 0]) rfl (fun _ => rfl) ?_
  refine pw_istn E (pc' := 2) (ls' := [some (.ref 116), some (pw_i 0), none]) rfl rfl rfl rfl ?_
  refine pw_ld E (pc' := 3) (st' := [pw_i 0]) rfl (fun _ => rfl) ?_
  refine pw_istn E (pc' := 4) (ls' := [some (.ref 116), some (pw_i 0), some (pw_i 0)]) rfl rfl rfl rfl ?_
  have L4 : ∀ (n4 : Nat) (k4_1 : Int) (k4_2 : Int), (-2147483648) ≤ k4_1 → k4_1 ≤ 2147483647 → 0 ≤ k4_2 → k4_2 ≤ 20 → (20 - k4_2).toNat = n4 → pw X d h 42 4 [some (.ref 116), some (pw_i k4_1), some (pw_i k4_2)] [] (fun h' v => h = h' ∧ ∃ a : Int, v = .inl (some (pw_i a)) ∧ (-2147483648) ≤ a ∧ a ≤ 2147483647) := by
    intro n4
    induction n4 using Nat.strongRecOn with
    | ind n4 ih4 =>
      intro k4_1 k4_2 k4_1a k4_1b k4_2a k4_2b hm4
      refine pw_ld E (pc' := 5) (st' := [pw_i k4_2]) rfl (fun _ => rfl) ?_
      refine pw_ld E (pc' := 6) (st' := [.ref 116, pw_i k4_2]) rfl (fun _ => rfl) ?_
      refine pw_getI I E (c := 100) (k := 3) (pc' := 9) rfl rfl rfl rfl rfl rfl (fun hf1a hf1b hf1c hf1d => ?_)
      refine pw_if2 E (pc' := 35) rfl (by decide) (by omega) (by omega) (by omega) (by omega) ?_ ?_
      · intro hc2
        have hc2 : pw_g h 100 3 ≤ k4_2 := hc2
        refine pw_ld E (pc' := 36) (st' := [pw_i k4_1]) rfl (fun _ => rfl) ?_
        refine pw_iret E rfl ?_
        exact ⟨rfl, ⟨_, rfl, by omega, by omega⟩⟩
      · intro hc3
        have hc3 : ¬ (pw_g h 100 3 ≤ k4_2) := hc3
        refine pw_ld E (pc' := 13) (st' := [pw_i k4_1]) rfl (fun _ => rfl) ?_
        refine pw_ld E (pc' := 14) (st' := [.ref 116, pw_i k4_1]) rfl (fun _ => rfl) ?_
        refine pw_getR (b := 119) I E (c := 100) (k := 2) (pc' := 17) rfl rfl rfl rfl rfl rfl rfl ?_
        refine pw_ld E (pc' := 18) (st' := [pw_i k4_2, .ref 119, pw_i k4_1]) rfl (fun _ => rfl) ?_
        refine pw_ald I E (c := 103) (pc' := 19) rfl rfl rfl (by decide) rfl (by decide) (by omega) (by omega) rfl (fun hf4a hf4b hf4c hf4d => ?_)
        refine pw_if E (pc' := 26) rfl (by decide) (by omega) (by omega) ?_ ?_
        · intro hc5
          have hc5 : pw_g h 103 (k4_2.toNat) = (0 : Int) := hc5
          refine pw_ld E (pc' := 27) (st' := [pw_i 0, pw_i k4_1]) rfl (fun _ => rfl) ?_
          refine pw_add E (pc' := 28) rfl rfl ?_
          refine pw_istn E (pc' := 29) (ls' := [some (.ref 116), some (pw_i (k4_1 + 0)), some (pw_i k4_2)]) rfl rfl rfl rfl ?_
          refine pw_inc E (pc' := 32) (ls' := [some (.ref 116), some (pw_i (k4_1 + 0)), some (pw_i (k4_2 + 1))]) rfl rfl rfl rfl ?_
          refine pw_goto E (pc' := 4) rfl (by decide) ?_
          exact ih4 _ (by omega) (k4_1 + 0) (k4_2 + 1)  (by omega) (by omega) (by omega) (by omega)  rfl
        · intro hc6
          have hc6 : ¬ (pw_g h 103 (k4_2.toNat) = (0 : Int)) := hc6
          refine pw_ld E (pc' := 23) (st' := [pw_i 1, pw_i k4_1]) rfl (fun _ => rfl) ?_
          refine pw_goto E (pc' := 27) rfl (by decide) ?_
          refine pw_add E (pc' := 28) rfl rfl ?_
          refine pw_nm (fun x7 hx7a hx7b => ?_)
          refine pw_istn E (pc' := 29) (ls' := [some (.ref 116), some (pw_i x7), some (pw_i k4_2)]) rfl rfl rfl rfl ?_
          refine pw_inc E (pc' := 32) (ls' := [some (.ref 116), some (pw_i x7), some (pw_i (k4_2 + 1))]) rfl rfl rfl rfl ?_
          refine pw_goto E (pc' := 4) rfl (by decide) ?_
          exact ih4 _ (by omega) (x7) (k4_2 + 1)  (by omega) (by omega) (by omega) (by omega)  rfl
  exact L4 _ (0) (0)  (by omega) (by omega) (by omega) (by omega)  rfl
set_option maxHeartbeats 4000000 in
theorem cm_41 {X : List (Nat × List Value)} {d : Nat} {h : pm_H} (hd : 1 ≤ d) (I : pw_I h) (n : Int) (hn1 : 0 ≤ n) (hn2 : n ≤ 20) : pw X d h 41 0 [some (.ref 116), some (pw_i n)] [] (fun h' v => pw_I h' ∧ pw_E [100] h h' ∧ v = .inl none) := by
  have E : pm_ent 41 = some (2, 2, 4, 4, pmc_41) := rfl
  have E0 : pw_E [100] h h := pw_E.rf _ _
  refine pw_ld E (pc' := 1) (st' := [.ref 116]) rfl (fun _ => rfl) ?_
  refine pw_ld E (pc' := 2) (st' := [.ref 116, .ref 116]) rfl (fun _ => rfl) ?_
  refine pw_getI I E (c := 100) (k := 3) (pc' := 5) rfl rfl rfl rfl rfl rfl (fun hf1a hf1b hf1c hf1d => ?_)
  refine pw_ld E (pc' := 6) (st' := [pw_i n, pw_i (pw_g h 100 3), .ref 116]) rfl (fun _ => rfl) ?_
  refine pw_min E rfl rfl (by omega) (by omega) (by omega) (by omega) rfl ?_
  refine pw_putI I E (c := 100) (k := 3) (pc' := 12) rfl rfl rfl rfl (by omega) (by omega) (by omega) (by omega) rfl rfl ?_
  intro h2I h2E
  generalize h2w : pw_w h 100 3 (pw_i (min (pw_g h 100 3) n)) = h2 at h2I h2E ⊢
  have h2F := E0.tr (h2E.wk (W' := [100]) (by first | rfl | simp))
  refine pw_vret E rfl ?_
  exact ⟨h2I, h2F, rfl⟩
set_option maxHeartbeats 4000000 in
theorem cm_38 {X : List (Nat × List Value)} {d : Nat} {h : pm_H} (hd : 1 ≤ d) (I : pw_I h) (z : Int) (hz1 : 0 ≤ z) (hz2 : z ≤ 1) : pw X d h 38 0 [some (.ref 116), some (pw_i z), none, none] [] (fun h' v => h = h' ∧ ∃ a : Int, v = .inl (some (pw_i a)) ∧ (-2147483648) ≤ a ∧ a ≤ 2147483647) := by
  have E : pm_ent 38 = some (2, 4, 4, 0, pmc_38) := rfl
  refine pw_ld E (pc' := 1) (st' := [pw_i 0]) rfl (fun _ => rfl) ?_
  refine pw_istn E (pc' := 2) (ls' := [some (.ref 116), some (pw_i z), some (pw_i 0), none]) rfl rfl rfl rfl ?_
  refine pw_ld E (pc' := 3) (st' := [pw_i 0]) rfl (fun _ => rfl) ?_
  refine pw_istn E (pc' := 4) (ls' := [some (.ref 116), some (pw_i z), some (pw_i 0), some (pw_i 0)]) rfl rfl rfl rfl ?_
  have L4 : ∀ (n4 : Nat) (k4_2 : Int) (k4_3 : Int), (-2147483648) ≤ k4_2 → k4_2 ≤ 2147483647 → 0 ≤ k4_3 → k4_3 ≤ 20 → (20 - k4_3).toNat = n4 → pw X d h 38 4 [some (.ref 116), some (pw_i z), some (pw_i k4_2), some (pw_i k4_3)] [] (fun h' v => h = h' ∧ ∃ a : Int, v = .inl (some (pw_i a)) ∧ (-2147483648) ≤ a ∧ a ≤ 2147483647) := by
    intro n4
    induction n4 using Nat.strongRecOn with
    | ind n4 ih4 =>
      intro k4_2 k4_3 k4_2a k4_2b k4_3a k4_3b hm4
      refine pw_ld E (pc' := 5) (st' := [pw_i k4_3]) rfl (fun _ => rfl) ?_
      refine pw_ld E (pc' := 6) (st' := [.ref 116, pw_i k4_3]) rfl (fun _ => rfl) ?_
      refine pw_getI I E (c := 100) (k := 3) (pc' := 9) rfl rfl rfl rfl rfl rfl (fun hf1a hf1b hf1c hf1d => ?_)
      refine pw_if2 E (pc' := 44) rfl (by decide) (by omega) (by omega) (by omega) (by omega) ?_ ?_
      · intro hc2
        have hc2 : pw_g h 100 3 ≤ k4_3 := hc2
        refine pw_ld E (pc' := 45) (st' := [pw_i k4_2]) rfl (fun _ => rfl) ?_
        refine pw_iret E rfl ?_
        exact ⟨rfl, ⟨_, rfl, by omega, by omega⟩⟩
      · intro hc3
        have hc3 : ¬ (pw_g h 100 3 ≤ k4_3) := hc3
        refine pw_ld E (pc' := 13) (st' := [pw_i k4_2]) rfl (fun _ => rfl) ?_
        refine pw_ld E (pc' := 14) (st' := [.ref 116, pw_i k4_2]) rfl (fun _ => rfl) ?_
        refine pw_getR (b := 119) I E (c := 100) (k := 2) (pc' := 17) rfl rfl rfl rfl rfl rfl rfl ?_
        refine pw_ld E (pc' := 18) (st' := [pw_i k4_3, .ref 119, pw_i k4_2]) rfl (fun _ => rfl) ?_
        refine pw_ald I E (c := 103) (pc' := 19) rfl rfl rfl (by decide) rfl (by decide) (by omega) (by omega) rfl (fun hf4a hf4b hf4c hf4d => ?_)
        refine pw_if E (pc' := 26) rfl (by decide) (by omega) (by omega) ?_ ?_
        · intro hc5
          have hc5 : pw_g h 103 (k4_3.toNat) ≠ (0 : Int) := hc5
          refine pw_ld E (pc' := 27) (st' := [.ref 116, pw_i k4_2]) rfl (fun _ => rfl) ?_
          refine pw_getR (b := 118) I E (c := 100) (k := 1) (pc' := 30) rfl rfl rfl rfl rfl rfl rfl ?_
          refine pw_ld E (pc' := 31) (st' := [pw_i k4_3, .ref 118, pw_i k4_2]) rfl (fun _ => rfl) ?_
          refine pw_ald I E (c := 102) (pc' := 32) rfl rfl rfl (by decide) rfl (by decide) (by omega) (by omega) rfl (fun hf6a hf6b hf6c hf6d => ?_)
          refine pw_goto E (pc' := 36) rfl (by decide) ?_
          refine pw_add E (pc' := 37) rfl rfl ?_
          refine pw_nm (fun x7 hx7a hx7b => ?_)
          refine pw_istn E (pc' := 38) (ls' := [some (.ref 116), some (pw_i z), some (pw_i x7), some (pw_i k4_3)]) rfl rfl rfl rfl ?_
          refine pw_inc E (pc' := 41) (ls' := [some (.ref 116), some (pw_i z), some (pw_i x7), some (pw_i (k4_3 + 1))]) rfl rfl rfl rfl ?_
          refine pw_goto E (pc' := 4) rfl (by decide) ?_
          exact ih4 _ (by omega) (x7) (k4_3 + 1)  (by omega) (by omega) (by omega) (by omega)  rfl
        · intro hc8
          have hc8 : ¬ (pw_g h 103 (k4_3.toNat) ≠ (0 : Int)) := hc8
          refine pw_ld E (pc' := 23) (st' := [pw_i z, pw_i k4_2]) rfl (fun _ => rfl) ?_
          refine pw_if E (pc' := 35) rfl (by decide) (by omega) (by omega) ?_ ?_
          · intro hc9
            have hc9 : z ≠ (0 : Int) := hc9
            refine pw_ld E (pc' := 36) (st' := [pw_i 0, pw_i k4_2]) rfl (fun _ => rfl) ?_
            refine pw_add E (pc' := 37) rfl rfl ?_
            refine pw_istn E (pc' := 38) (ls' := [some (.ref 116), some (pw_i z), some (pw_i (k4_2 + 0)), some (pw_i k4_3)]) rfl rfl rfl rfl ?_
            refine pw_inc E (pc' := 41) (ls' := [some (.ref 116), some (pw_i z), some (pw_i (k4_2 + 0)), some (pw_i (k4_3 + 1))]) rfl rfl rfl rfl ?_
            refine pw_goto E (pc' := 4) rfl (by decide) ?_
            exact ih4 _ (by omega) (k4_2 + 0) (k4_3 + 1)  (by omega) (by omega) (by omega) (by omega)  rfl
          · intro hc10
            have hc10 : ¬ (z ≠ (0 : Int)) := hc10
            refine pw_ld E (pc' := 27) (st' := [.ref 116, pw_i k4_2]) rfl (fun _ => rfl) ?_
            refine pw_getR (b := 118) I E (c := 100) (k := 1) (pc' := 30) rfl rfl rfl rfl rfl rfl rfl ?_
            refine pw_ld E (pc' := 31) (st' := [pw_i k4_3, .ref 118, pw_i k4_2]) rfl (fun _ => rfl) ?_
            refine pw_ald I E (c := 102) (pc' := 32) rfl rfl rfl (by decide) rfl (by decide) (by omega) (by omega) rfl (fun hf11a hf11b hf11c hf11d => ?_)
            refine pw_goto E (pc' := 36) rfl (by decide) ?_
            refine pw_add E (pc' := 37) rfl rfl ?_
            refine pw_nm (fun x12 hx12a hx12b => ?_)
            refine pw_istn E (pc' := 38) (ls' := [some (.ref 116), some (pw_i z), some (pw_i x12), some (pw_i k4_3)]) rfl rfl rfl rfl ?_
            refine pw_inc E (pc' := 41) (ls' := [some (.ref 116), some (pw_i z), some (pw_i x12), some (pw_i (k4_3 + 1))]) rfl rfl rfl rfl ?_
            refine pw_goto E (pc' := 4) rfl (by decide) ?_
            exact ih4 _ (by omega) (x12) (k4_3 + 1)  (by omega) (by omega) (by omega) (by omega)  rfl
  exact L4 _ (0) (0)  (by omega) (by omega) (by omega) (by omega)  rfl
set_option maxHeartbeats 4000000 in
theorem cm_39 {X : List (Nat × List Value)} {d : Nat} {h : pm_H} (hd : 1 ≤ d) (I : pw_I h) (z : Int) (hz1 : 0 ≤ z) (hz2 : z ≤ 1) : pw X d h 39 0 [some (.ref 116), some (pw_i z), none, none] [] (fun h' v => h = h' ∧ ∃ a : Int, v = .inl (some (pw_i a)) ∧ (-2147483648) ≤ a ∧ a ≤ 2147483647) := by
  have E : pm_ent 39 = some (2, 4, 4, 0, pmc_39) := rfl
  refine pw_ld E (pc' := 1) (st' := [pw_i 0]) rfl (fun _ => rfl) ?_
  refine pw_istn E (pc' := 2) (ls' := [some (.ref 116), some (pw_i z), some (pw_i 0), none]) rfl rfl rfl rfl ?_
  refine pw_ld E (pc' := 3) (st' := [pw_i 0]) rfl (fun _ => rfl) ?_
  refine pw_istn E (pc' := 4) (ls' := [some (.ref 116), some (pw_i z), some (pw_i 0), some (pw_i 0)]) rfl rfl rfl rfl ?_
  have L4 : ∀ (n4 : Nat) (k4_2 : Int) (k4_3 : Int), (-2147483648) ≤ k4_2 → k4_2 ≤ 2147483647 → 0 ≤ k4_3 → k4_3 ≤ 20 → (20 - k4_3).toNat = n4 → pw X d h 39 4 [some (.ref 116), some (pw_i z), some (pw_i k4_2), some (pw_i k4_3)] [] (fun h' v => h = h' ∧ ∃ a : Int, v = .inl (some (pw_i a)) ∧ (-2147483648) ≤ a ∧ a ≤ 2147483647) := by
    intro n4
    induction n4 using Nat.strongRecOn with
    | ind n4 ih4 =>
      intro k4_2 k4_3 k4_2a k4_2b k4_3a k4_3b hm4
      refine pw_ld E (pc' := 5) (st' := [pw_i k4_3]) rfl (fun _ => rfl) ?_
      refine pw_ld E (pc' := 6) (st' := [.ref 116, pw_i k4_3]) rfl (fun _ => rfl) ?_
      refine pw_getI I E (c := 100) (k := 3) (pc' := 9) rfl rfl rfl rfl rfl rfl (fun hf1a hf1b hf1c hf1d => ?_)
      refine pw_if2 E (pc' := 44) rfl (by decide) (by omega) (by omega) (by omega) (by omega) ?_ ?_
      · intro hc2
        have hc2 : pw_g h 100 3 ≤ k4_3 := hc2
        refine pw_ld E (pc' := 45) (st' := [pw_i k4_2]) rfl (fun _ => rfl) ?_
        refine pw_iret E rfl ?_
        exact ⟨rfl, ⟨_, rfl, by omega, by omega⟩⟩
      · intro hc3
        have hc3 : ¬ (pw_g h 100 3 ≤ k4_3) := hc3
        refine pw_ld E (pc' := 13) (st' := [pw_i k4_2]) rfl (fun _ => rfl) ?_
        refine pw_ld E (pc' := 14) (st' := [.ref 116, pw_i k4_2]) rfl (fun _ => rfl) ?_
        refine pw_getR (b := 119) I E (c := 100) (k := 2) (pc' := 17) rfl rfl rfl rfl rfl rfl rfl ?_
        refine pw_ld E (pc' := 18) (st' := [pw_i k4_3, .ref 119, pw_i k4_2]) rfl (fun _ => rfl) ?_
        refine pw_ald I E (c := 103) (pc' := 19) rfl rfl rfl (by decide) rfl (by decide) (by omega) (by omega) rfl (fun hf4a hf4b hf4c hf4d => ?_)
        refine pw_if E (pc' := 26) rfl (by decide) (by omega) (by omega) ?_ ?_
        · intro hc5
          have hc5 : pw_g h 103 (k4_3.toNat) ≠ (0 : Int) := hc5
          refine pw_ld E (pc' := 27) (st' := [.ref 116, pw_i k4_2]) rfl (fun _ => rfl) ?_
          refine pw_getR (b := 117) I E (c := 100) (k := 0) (pc' := 30) rfl rfl rfl rfl rfl rfl rfl ?_
          refine pw_ld E (pc' := 31) (st' := [pw_i k4_3, .ref 117, pw_i k4_2]) rfl (fun _ => rfl) ?_
          refine pw_ald I E (c := 101) (pc' := 32) rfl rfl rfl (by decide) rfl (by decide) (by omega) (by omega) rfl (fun hf6a hf6b hf6c hf6d => ?_)
          refine pw_goto E (pc' := 36) rfl (by decide) ?_
          refine pw_add E (pc' := 37) rfl rfl ?_
          refine pw_nm (fun x7 hx7a hx7b => ?_)
          refine pw_istn E (pc' := 38) (ls' := [some (.ref 116), some (pw_i z), some (pw_i x7), some (pw_i k4_3)]) rfl rfl rfl rfl ?_
          refine pw_inc E (pc' := 41) (ls' := [some (.ref 116), some (pw_i z), some (pw_i x7), some (pw_i (k4_3 + 1))]) rfl rfl rfl rfl ?_
          refine pw_goto E (pc' := 4) rfl (by decide) ?_
          exact ih4 _ (by omega) (x7) (k4_3 + 1)  (by omega) (by omega) (by omega) (by omega)  rfl
        · intro hc8
          have hc8 : ¬ (pw_g h 103 (k4_3.toNat) ≠ (0 : Int)) := hc8
          refine pw_ld E (pc' := 23) (st' := [pw_i z, pw_i k4_2]) rfl (fun _ => rfl) ?_
          refine pw_if E (pc' := 35) rfl (by decide) (by omega) (by omega) ?_ ?_
          · intro hc9
            have hc9 : z ≠ (0 : Int) := hc9
            refine pw_ld E (pc' := 36) (st' := [pw_i 0, pw_i k4_2]) rfl (fun _ => rfl) ?_
            refine pw_add E (pc' := 37) rfl rfl ?_
            refine pw_istn E (pc' := 38) (ls' := [some (.ref 116), some (pw_i z), some (pw_i (k4_2 + 0)), some (pw_i k4_3)]) rfl rfl rfl rfl ?_
            refine pw_inc E (pc' := 41) (ls' := [some (.ref 116), some (pw_i z), some (pw_i (k4_2 + 0)), some (pw_i (k4_3 + 1))]) rfl rfl rfl rfl ?_
            refine pw_goto E (pc' := 4) rfl (by decide) ?_
            exact ih4 _ (by omega) (k4_2 + 0) (k4_3 + 1)  (by omega) (by omega) (by omega) (by omega)  rfl
          · intro hc10
            have hc10 : ¬ (z ≠ (0 : Int)) := hc10
            refine pw_ld E (pc' := 27) (st' := [.ref 116, pw_i k4_2]) rfl (fun _ => rfl) ?_
            refine pw_getR (b := 117) I E (c := 100) (k := 0) (pc' := 30) rfl rfl rfl rfl rfl rfl rfl ?_
            refine pw_ld E (pc' := 31) (st' := [pw_i k4_3, .ref 117, pw_i k4_2]) rfl (fun _ => rfl) ?_
            refine pw_ald I E (c := 101) (pc' := 32) rfl rfl rfl (by decide) rfl (by decide) (by omega) (by omega) rfl (fun hf11a hf11b hf11c hf11d => ?_)
            refine pw_goto E (pc' := 36) rfl (by decide) ?_
            refine pw_add E (pc' := 37) rfl rfl ?_
            refine pw_nm (fun x12 hx12a hx12b => ?_)
            refine pw_istn E (pc' := 38) (ls' := [some (.ref 116), some (pw_i z), some (pw_i x12), some (pw_i k4_3)]) rfl rfl rfl rfl ?_
            refine pw_inc E (pc' := 41) (ls' := [some (.ref 116), some (pw_i z), some (pw_i x12), some (pw_i (k4_3 + 1))]) rfl rfl rfl rfl ?_
            refine pw_goto E (pc' := 4) rfl (by decide) ?_
            exact ih4 _ (by omega) (x12) (k4_3 + 1)  (by omega) (by omega) (by omega) (by omega)  rfl
  exact L4 _ (0) (0)  (by omega) (by omega) (by omega) (by omega)  rfl
set_option maxHeartbeats 4000000 in
theorem cm_31_105 {X : List (Nat × List Value)} {d : Nat} {h : pm_H} (hd : 2 ≤ d) (I : pw_I h) (c1 : Nat) (hc1 : pw_Lg c1) (c2 : Nat) (hc2 : pw_Lg c2) (n : Int) (hn1 : 0 ≤ n) (hn2 : n ≤ 20) : pw X d h 31 0 [some (.ref 121), some (.ref (16 + c1)), some (.ref (16 + c2)), some (pw_i n)] [] (fun h' v => pw_I h' ∧ pw_E [105, 107, 109] h h' ∧ v = .inl none) := by
  have E : pm_ent 31 = some (4, 4, 3, 4, pmc_31) := rfl
  have E0 : pw_E [105, 107, 109] h h := pw_E.rf _ _
  refine pw_ld E (pc' := 1) (st' := [.ref 121]) rfl (fun _ => rfl) ?_
  refine pw_getR (b := 122) I E (c := 105) (k := 0) (pc' := 4) rfl rfl rfl rfl rfl rfl rfl ?_
  refine pw_ld E (pc' := 5) (st' := [.ref (16 + c1), .ref 122]) rfl (fun _ => rfl) ?_
  obtain ⟨f1l, f1h, -⟩ := pw_obj (c := 106) I rfl
  refine pw_call (m' := 25) (As := [.ref 122, .ref (16 + c1)]) (rest := []) (ls'' := [some (.ref 122), some (.ref (16 + c1))]) (by omega) E rfl (fun _ => pw_iV rfl rfl rfl rfl (pw_cellI f1h rfl)) (rfl : pm_ent 25 = some (2, 2, 2, 4, pmc_25)) rfl rfl (cm_25 (by omega) I 106 (by unfold pw_Lg; omega) c1 hc1) ?_
  rintro h2 v3 ⟨h2I, h2E, rfl⟩
  refine ⟨_, rfl, ?_⟩
  have h2F := E0.tr (h2E.wk (W' := [105, 107, 109]) (by first | rfl | simp))
  show pw X d h2 31 8 [some (.ref 121), some (.ref (16 + c1)), some (.ref (16 + c2)), some (pw_i n)] [] _
  refine pw_ld E (pc' := 9) (st' := [.ref 121]) rfl (fun _ => rfl) ?_
  refine pw_getR (b := 124) h2I E (c := 105) (k := 1) (pc' := 12) rfl rfl rfl rfl rfl rfl rfl ?_
  refine pw_ld E (pc' := 13) (st' := [.ref (16 + c2), .ref 124]) rfl (fun _ => rfl) ?_
  obtain ⟨f4l, f4h, -⟩ := pw_obj (c := 108) h2I rfl
  refine pw_call (m' := 25) (As := [.ref 124, .ref (16 + c2)]) (rest := []) (ls'' := [some (.ref 124), some (.ref (16 + c2))]) (by omega) E rfl (fun _ => pw_iV rfl rfl rfl rfl (pw_cellI f4h rfl)) (rfl : pm_ent 25 = some (2, 2, 2, 4, pmc_25)) rfl rfl (cm_25 (by omega) h2I 108 (by unfold pw_Lg; omega) c2 hc2) ?_
  rintro h5 v6 ⟨h5I, h5E, rfl⟩
  refine ⟨_, rfl, ?_⟩
  have h5F := h2F.tr (h5E.wk (W' := [105, 107, 109]) (by first | rfl | simp))
  show pw X d h5 31 16 [some (.ref 121), some (.ref (16 + c1)), some (.ref (16 + c2)), some (pw_i n)] [] _
  refine pw_ld E (pc' := 17) (st' := [.ref 121]) rfl (fun _ => rfl) ?_
  refine pw_ld E (pc' := 18) (st' := [pw_i n, .ref 121]) rfl (fun _ => rfl) ?_
  refine pw_putI h5I E (c := 105) (k := 2) (pc' := 21) rfl rfl rfl rfl (by omega) (by omega) (by omega) (by omega) rfl rfl ?_
  intro h7I h7E
  generalize h7w : pw_w h5 105 2 (pw_i n) = h7 at h7I h7E ⊢
  have h7F := h5F.tr (h7E.wk (W' := [105, 107, 109]) (by first | rfl | simp))
  refine pw_ld E (pc' := 22) (st' := [.ref 121]) rfl (fun _ => rfl) ?_
  refine pw_ld E (pc' := 23) (st' := [pw_i 1, .ref 121]) rfl (fun _ => rfl) ?_
  refine pw_putZ h7I E (c := 105) (k := 3) (pc' := 26) rfl rfl rfl rfl (by omega) (by omega) (by omega) rfl rfl ?_
  intro h8I h8E
  generalize h8w : pw_w h7 105 3 (pw_i 1) = h8 at h8I h8E ⊢
  have h8F := h7F.tr (h8E.wk (W' := [105, 107, 109]) (by first | rfl | simp))
  refine pw_vret E rfl ?_
  exact ⟨h8I, h8F, rfl⟩
set_option maxHeartbeats 4000000 in
theorem cm_32_105 {X : List (Nat × List Value)} {d : Nat} {h : pm_H} (hd : 1 ≤ d) (I : pw_I h)  : pw X d h 32 0 [some (.ref 121)] [] (fun h' v => h = h' ∧ ∃ a : Int, v = .inl (some (pw_i a)) ∧ 0 ≤ a ∧ a ≤ 1) := by
  have E : pm_ent 32 = some (1, 1, 3, 1, pmc_32) := rfl
  refine pw_ld E (pc' := 1) (st' := [.ref 121]) rfl (fun _ => rfl) ?_
  refine pw_getI I E (c := 105) (k := 3) (pc' := 4) rfl rfl rfl rfl rfl rfl (fun hf1a hf1b hf1c hf1d => ?_)
  refine pw_zret E rfl (by omega) ?_
  exact ⟨rfl, ⟨_, rfl, by omega, by omega⟩⟩
set_option maxHeartbeats 4000000 in
theorem cm_33_105 {X : List (Nat × List Value)} {d : Nat} {h : pm_H} (hd : 1 ≤ d) (I : pw_I h)  : pw X d h 33 0 [some (.ref 121)] [] (fun h' v => h = h' ∧ ∃ a : Int, v = .inl (some (pw_i a)) ∧ 0 ≤ a ∧ a ≤ 20) := by
  have E : pm_ent 33 = some (1, 1, 3, 0, pmc_33) := rfl
  refine pw_ld E (pc' := 1) (st' := [.ref 121]) rfl (fun _ => rfl) ?_
  refine pw_getI I E (c := 105) (k := 2) (pc' := 4) rfl rfl rfl rfl rfl rfl (fun hf1a hf1b hf1c hf1d => ?_)
  refine pw_iret E rfl ?_
  exact ⟨rfl, ⟨_, rfl, by omega, by omega⟩⟩
set_option maxHeartbeats 4000000 in
theorem cm_34_105 {X : List (Nat × List Value)} {d : Nat} {h : pm_H} (hd : 2 ≤ d) (I : pw_I h) (c1 : Nat) (hc1 : pw_Lg c1) (c2 : Nat) (hc2 : pw_Lg c2) : pw X d h 34 0 [some (.ref 121), some (.ref (16 + c1)), some (.ref (16 + c2))] [] (fun h' v => pw_I h' ∧ pw_E [c1 + 1, c2 + 1] h h' ∧ v = .inl none) := by
  have E : pm_ent 34 = some (3, 3, 3, 4, pmc_34) := rfl
  have E0 : pw_E [c1 + 1, c2 + 1] h h := pw_E.rf _ _
  refine pw_ld E (pc' := 1) (st' := [.ref (16 + c1)]) rfl (fun _ => rfl) ?_
  refine pw_ld E (pc' := 2) (st' := [.ref 121, .ref (16 + c1)]) rfl (fun _ => rfl) ?_
  refine pw_getR (b := 122) I E (c := 105) (k := 0) (pc' := 5) rfl rfl rfl rfl rfl rfl rfl ?_
  obtain ⟨f1l, f1h, -⟩ := pw_obj (c := c1) I (pw_Lg_o hc1)
  refine pw_call (m' := 25) (As := [.ref (16 + c1), .ref 122]) (rest := []) (ls'' := [some (.ref (16 + c1)), some (.ref 122)]) (by omega) E rfl (fun _ => pw_iV rfl rfl rfl rfl (pw_cellI f1h rfl)) (rfl : pm_ent 25 = some (2, 2, 2, 4, pmc_25)) rfl rfl (cm_25 (by omega) I c1 hc1 106 (by unfold pw_Lg; omega)) ?_
  rintro h2 v3 ⟨h2I, h2E, rfl⟩
  refine ⟨_, rfl, ?_⟩
  have h2F := E0.tr (h2E.wk (W' := [c1 + 1, c2 + 1]) (by first | rfl | simp))
  show pw X d h2 34 8 [some (.ref 121), some (.ref (16 + c1)), some (.ref (16 + c2))] [] _
  refine pw_ld E (pc' := 9) (st' := [.ref (16 + c2)]) rfl (fun _ => rfl) ?_
  refine pw_ld E (pc' := 10) (st' := [.ref 121, .ref (16 + c2)]) rfl (fun _ => rfl) ?_
  refine pw_getR (b := 124) h2I E (c := 105) (k := 1) (pc' := 13) rfl rfl rfl rfl rfl rfl rfl ?_
  obtain ⟨f4l, f4h, -⟩ := pw_obj (c := c2) h2I (pw_Lg_o hc2)
  refine pw_call (m' := 25) (As := [.ref (16 + c2), .ref 124]) (rest := []) (ls'' := [some (.ref (16 + c2)), some (.ref 124)]) (by omega) E rfl (fun _ => pw_iV rfl rfl rfl rfl (pw_cellI f4h rfl)) (rfl : pm_ent 25 = some (2, 2, 2, 4, pmc_25)) rfl rfl (cm_25 (by omega) h2I c2 hc2 108 (by unfold pw_Lg; omega)) ?_
  rintro h5 v6 ⟨h5I, h5E, rfl⟩
  refine ⟨_, rfl, ?_⟩
  have h5F := h2F.tr (h5E.wk (W' := [c1 + 1, c2 + 1]) (by first | rfl | simp))
  show pw X d h5 34 16 [some (.ref 121), some (.ref (16 + c1)), some (.ref (16 + c2))] [] _
  refine pw_vret E rfl ?_
  exact ⟨h5I, h5F, rfl⟩
set_option maxHeartbeats 4000000 in
theorem cm_31_110 {X : List (Nat × List Value)} {d : Nat} {h : pm_H} (hd : 2 ≤ d) (I : pw_I h) (c1 : Nat) (hc1 : pw_Lg c1) (c2 : Nat) (hc2 : pw_Lg c2) (n : Int) (hn1 : 0 ≤ n) (hn2 : n ≤ 20) : pw X d h 31 0 [some (.ref 126), some (.ref (16 + c1)), some (.ref (16 + c2)), some (pw_i n)] [] (fun h' v => pw_I h' ∧ pw_E [110, 112, 114] h h' ∧ v = .inl none) := by
  have E : pm_ent 31 = some (4, 4, 3, 4, pmc_31) := rfl
  have E0 : pw_E [110, 112, 114] h h := pw_E.rf _ _
  refine pw_ld E (pc' := 1) (st' := [.ref 126]) rfl (fun _ => rfl) ?_
  refine pw_getR (b := 127) I E (c := 110) (k := 0) (pc' := 4) rfl rfl rfl rfl rfl rfl rfl ?_
  refine pw_ld E (pc' := 5) (st' := [.ref (16 + c1), .ref 127]) rfl (fun _ => rfl) ?_
  obtain ⟨f1l, f1h, -⟩ := pw_obj (c := 111) I rfl
  refine pw_call (m' := 25) (As := [.ref 127, .ref (16 + c1)]) (rest := []) (ls'' := [some (.ref 127), some (.ref (16 + c1))]) (by omega) E rfl (fun _ => pw_iV rfl rfl rfl rfl (pw_cellI f1h rfl)) (rfl : pm_ent 25 = some (2, 2, 2, 4, pmc_25)) rfl rfl (cm_25 (by omega) I 111 (by unfold pw_Lg; omega) c1 hc1) ?_
  rintro h2 v3 ⟨h2I, h2E, rfl⟩
  refine ⟨_, rfl, ?_⟩
  have h2F := E0.tr (h2E.wk (W' := [110, 112, 114]) (by first | rfl | simp))
  show pw X d h2 31 8 [some (.ref 126), some (.ref (16 + c1)), some (.ref (16 + c2)), some (pw_i n)] [] _
  refine pw_ld E (pc' := 9) (st' := [.ref 126]) rfl (fun _ => rfl) ?_
  refine pw_getR (b := 129) h2I E (c := 110) (k := 1) (pc' := 12) rfl rfl rfl rfl rfl rfl rfl ?_
  refine pw_ld E (pc' := 13) (st' := [.ref (16 + c2), .ref 129]) rfl (fun _ => rfl) ?_
  obtain ⟨f4l, f4h, -⟩ := pw_obj (c := 113) h2I rfl
  refine pw_call (m' := 25) (As := [.ref 129, .ref (16 + c2)]) (rest := []) (ls'' := [some (.ref 129), some (.ref (16 + c2))]) (by omega) E rfl (fun _ => pw_iV rfl rfl rfl rfl (pw_cellI f4h rfl)) (rfl : pm_ent 25 = some (2, 2, 2, 4, pmc_25)) rfl rfl (cm_25 (by omega) h2I 113 (by unfold pw_Lg; omega) c2 hc2) ?_
  rintro h5 v6 ⟨h5I, h5E, rfl⟩
  refine ⟨_, rfl, ?_⟩
  have h5F := h2F.tr (h5E.wk (W' := [110, 112, 114]) (by first | rfl | simp))
  show pw X d h5 31 16 [some (.ref 126), some (.ref (16 + c1)), some (.ref (16 + c2)), some (pw_i n)] [] _
  refine pw_ld E (pc' := 17) (st' := [.ref 126]) rfl (fun _ => rfl) ?_
  refine pw_ld E (pc' := 18) (st' := [pw_i n, .ref 126]) rfl (fun _ => rfl) ?_
  refine pw_putI h5I E (c := 110) (k := 2) (pc' := 21) rfl rfl rfl rfl (by omega) (by omega) (by omega) (by omega) rfl rfl ?_
  intro h7I h7E
  generalize h7w : pw_w h5 110 2 (pw_i n) = h7 at h7I h7E ⊢
  have h7F := h5F.tr (h7E.wk (W' := [110, 112, 114]) (by first | rfl | simp))
  refine pw_ld E (pc' := 22) (st' := [.ref 126]) rfl (fun _ => rfl) ?_
  refine pw_ld E (pc' := 23) (st' := [pw_i 1, .ref 126]) rfl (fun _ => rfl) ?_
  refine pw_putZ h7I E (c := 110) (k := 3) (pc' := 26) rfl rfl rfl rfl (by omega) (by omega) (by omega) rfl rfl ?_
  intro h8I h8E
  generalize h8w : pw_w h7 110 3 (pw_i 1) = h8 at h8I h8E ⊢
  have h8F := h7F.tr (h8E.wk (W' := [110, 112, 114]) (by first | rfl | simp))
  refine pw_vret E rfl ?_
  exact ⟨h8I, h8F, rfl⟩
set_option maxHeartbeats 4000000 in
theorem cm_32_110 {X : List (Nat × List Value)} {d : Nat} {h : pm_H} (hd : 1 ≤ d) (I : pw_I h)  : pw X d h 32 0 [some (.ref 126)] [] (fun h' v => h = h' ∧ ∃ a : Int, v = .inl (some (pw_i a)) ∧ 0 ≤ a ∧ a ≤ 1) := by
  have E : pm_ent 32 = some (1, 1, 3, 1, pmc_32) := rfl
  refine pw_ld E (pc' := 1) (st' := [.ref 126]) rfl (fun _ => rfl) ?_
  refine pw_getI I E (c := 110) (k := 3) (pc' := 4) rfl rfl rfl rfl rfl rfl (fun hf1a hf1b hf1c hf1d => ?_)
  refine pw_zret E rfl (by omega) ?_
  exact ⟨rfl, ⟨_, rfl, by omega, by omega⟩⟩
set_option maxHeartbeats 4000000 in
theorem cm_33_110 {X : List (Nat × List Value)} {d : Nat} {h : pm_H} (hd : 1 ≤ d) (I : pw_I h)  : pw X d h 33 0 [some (.ref 126)] [] (fun h' v => h = h' ∧ ∃ a : Int, v = .inl (some (pw_i a)) ∧ 0 ≤ a ∧ a ≤ 20) := by
  have E : pm_ent 33 = some (1, 1, 3, 0, pmc_33) := rfl
  refine pw_ld E (pc' := 1) (st' := [.ref 126]) rfl (fun _ => rfl) ?_
  refine pw_getI I E (c := 110) (k := 2) (pc' := 4) rfl rfl rfl rfl rfl rfl (fun hf1a hf1b hf1c hf1d => ?_)
  refine pw_iret E rfl ?_
  exact ⟨rfl, ⟨_, rfl, by omega, by omega⟩⟩
set_option maxHeartbeats 4000000 in
theorem cm_34_110 {X : List (Nat × List Value)} {d : Nat} {h : pm_H} (hd : 2 ≤ d) (I : pw_I h) (c1 : Nat) (hc1 : pw_Lg c1) (c2 : Nat) (hc2 : pw_Lg c2) : pw X d h 34 0 [some (.ref 126), some (.ref (16 + c1)), some (.ref (16 + c2))] [] (fun h' v => pw_I h' ∧ pw_E [c1 + 1, c2 + 1] h h' ∧ v = .inl none) := by
  have E : pm_ent 34 = some (3, 3, 3, 4, pmc_34) := rfl
  have E0 : pw_E [c1 + 1, c2 + 1] h h := pw_E.rf _ _
  refine pw_ld E (pc' := 1) (st' := [.ref (16 + c1)]) rfl (fun _ => rfl) ?_
  refine pw_ld E (pc' := 2) (st' := [.ref 126, .ref (16 + c1)]) rfl (fun _ => rfl) ?_
  refine pw_getR (b := 127) I E (c := 110) (k := 0) (pc' := 5) rfl rfl rfl rfl rfl rfl rfl ?_
  obtain ⟨f1l, f1h, -⟩ := pw_obj (c := c1) I (pw_Lg_o hc1)
  refine pw_call (m' := 25) (As := [.ref (16 + c1), .ref 127]) (rest := []) (ls'' := [some (.ref (16 + c1)), some (.ref 127)]) (by omega) E rfl (fun _ => pw_iV rfl rfl rfl rfl (pw_cellI f1h rfl)) (rfl : pm_ent 25 = some (2, 2, 2, 4, pmc_25)) rfl rfl (cm_25 (by omega) I c1 hc1 111 (by unfold pw_Lg; omega)) ?_
  rintro h2 v3 ⟨h2I, h2E, rfl⟩
  refine ⟨_, rfl, ?_⟩
  have h2F := E0.tr (h2E.wk (W' := [c1 + 1, c2 + 1]) (by first | rfl | simp))
  show pw X d h2 34 8 [some (.ref 126), some (.ref (16 + c1)), some (.ref (16 + c2))] [] _
  refine pw_ld E (pc' := 9) (st' := [.ref (16 + c2)]) rfl (fun _ => rfl) ?_
  refine pw_ld E (pc' := 10) (st' := [.ref 126, .ref (16 + c2)]) rfl (fun _ => rfl) ?_
  refine pw_getR (b := 129) h2I E (c := 110) (k := 1) (pc' := 13) rfl rfl rfl rfl rfl rfl rfl ?_
  obtain ⟨f4l, f4h, -⟩ := pw_obj (c := c2) h2I (pw_Lg_o hc2)
  refine pw_call (m' := 25) (As := [.ref (16 + c2), .ref 129]) (rest := []) (ls'' := [some (.ref (16 + c2)), some (.ref 129)]) (by omega) E rfl (fun _ => pw_iV rfl rfl rfl rfl (pw_cellI f4h rfl)) (rfl : pm_ent 25 = some (2, 2, 2, 4, pmc_25)) rfl rfl (cm_25 (by omega) h2I c2 hc2 113 (by unfold pw_Lg; omega)) ?_
  rintro h5 v6 ⟨h5I, h5E, rfl⟩
  refine ⟨_, rfl, ?_⟩
  have h5F := h2F.tr (h5E.wk (W' := [c1 + 1, c2 + 1]) (by first | rfl | simp))
  show pw X d h5 34 16 [some (.ref 126), some (.ref (16 + c1)), some (.ref (16 + c2))] [] _
  refine pw_vret E rfl ?_
  exact ⟨h5I, h5F, rfl⟩
set_option maxHeartbeats 4000000 in
theorem cm_31_115 {X : List (Nat × List Value)} {d : Nat} {h : pm_H} (hd : 2 ≤ d) (I : pw_I h) (c1 : Nat) (hc1 : pw_Lg c1) (c2 : Nat) (hc2 : pw_Lg c2) (n : Int) (hn1 : 0 ≤ n) (hn2 : n ≤ 20) : pw X d h 31 0 [some (.ref 131), some (.ref (16 + c1)), some (.ref (16 + c2)), some (pw_i n)] [] (fun h' v => pw_I h' ∧ pw_E [115, 117, 119] h h' ∧ v = .inl none) := by
  have E : pm_ent 31 = some (4, 4, 3, 4, pmc_31) := rfl
  have E0 : pw_E [115, 117, 119] h h := pw_E.rf _ _
  refine pw_ld E (pc' := 1) (st' := [.ref 131]) rfl (fun _ => rfl) ?_
  refine pw_getR (b := 132) I E (c := 115) (k := 0) (pc' := 4) rfl rfl rfl rfl rfl rfl rfl ?_
  refine pw_ld E (pc' := 5) (st' := [.ref (16 + c1), .ref 132]) rfl (fun _ => rfl) ?_
  obtain ⟨f1l, f1h, -⟩ := pw_obj (c := 116) I rfl
  refine pw_call (m' := 25) (As := [.ref 132, .ref (16 + c1)]) (rest := []) (ls'' := [some (.ref 132), some (.ref (16 + c1))]) (by omega) E rfl (fun _ => pw_iV rfl rfl rfl rfl (pw_cellI f1h rfl)) (rfl : pm_ent 25 = some (2, 2, 2, 4, pmc_25)) rfl rfl (cm_25 (by omega) I 116 (by unfold pw_Lg; omega) c1 hc1) ?_
  rintro h2 v3 ⟨h2I, h2E, rfl⟩
  refine ⟨_, rfl, ?_⟩
  have h2F := E0.tr (h2E.wk (W' := [115, 117, 119]) (by first | rfl | simp))
  show pw X d h2 31 8 [some (.ref 131), some (.ref (16 + c1)), some (.ref (16 + c2)), some (pw_i n)] [] _
  refine pw_ld E (pc' := 9) (st' := [.ref 131]) rfl (fun _ => rfl) ?_
  refine pw_getR (b := 134) h2I E (c := 115) (k := 1) (pc' := 12) rfl rfl rfl rfl rfl rfl rfl ?_
  refine pw_ld E (pc' := 13) (st' := [.ref (16 + c2), .ref 134]) rfl (fun _ => rfl) ?_
  obtain ⟨f4l, f4h, -⟩ := pw_obj (c := 118) h2I rfl
  refine pw_call (m' := 25) (As := [.ref 134, .ref (16 + c2)]) (rest := []) (ls'' := [some (.ref 134), some (.ref (16 + c2))]) (by omega) E rfl (fun _ => pw_iV rfl rfl rfl rfl (pw_cellI f4h rfl)) (rfl : pm_ent 25 = some (2, 2, 2, 4, pmc_25)) rfl rfl (cm_25 (by omega) h2I 118 (by unfold pw_Lg; omega) c2 hc2) ?_
  rintro h5 v6 ⟨h5I, h5E, rfl⟩
  refine ⟨_, rfl, ?_⟩
  have h5F := h2F.tr (h5E.wk (W' := [115, 117, 119]) (by first | rfl | simp))
  show pw X d h5 31 16 [some (.ref 131), some (.ref (16 + c1)), some (.ref (16 + c2)), some (pw_i n)] [] _
  refine pw_ld E (pc' := 17) (st' := [.ref 131]) rfl (fun _ => rfl) ?_
  refine pw_ld E (pc' := 18) (st' := [pw_i n, .ref 131]) rfl (fun _ => rfl) ?_
  refine pw_putI h5I E (c := 115) (k := 2) (pc' := 21) rfl rfl rfl rfl (by omega) (by omega) (by omega) (by omega) rfl rfl ?_
  intro h7I h7E
  generalize h7w : pw_w h5 115 2 (pw_i n) = h7 at h7I h7E ⊢
  have h7F := h5F.tr (h7E.wk (W' := [115, 117, 119]) (by first | rfl | simp))
  refine pw_ld E (pc' := 22) (st' := [.ref 131]) rfl (fun _ => rfl) ?_
  refine pw_ld E (pc' := 23) (st' := [pw_i 1, .ref 131]) rfl (fun _ => rfl) ?_
  refine pw_putZ h7I E (c := 115) (k := 3) (pc' := 26) rfl rfl rfl rfl (by omega) (by omega) (by omega) rfl rfl ?_
  intro h8I h8E
  generalize h8w : pw_w h7 115 3 (pw_i 1) = h8 at h8I h8E ⊢
  have h8F := h7F.tr (h8E.wk (W' := [115, 117, 119]) (by first | rfl | simp))
  refine pw_vret E rfl ?_
  exact ⟨h8I, h8F, rfl⟩
set_option maxHeartbeats 4000000 in
theorem cm_32_115 {X : List (Nat × List Value)} {d : Nat} {h : pm_H} (hd : 1 ≤ d) (I : pw_I h)  : pw X d h 32 0 [some (.ref 131)] [] (fun h' v => h = h' ∧ ∃ a : Int, v = .inl (some (pw_i a)) ∧ 0 ≤ a ∧ a ≤ 1) := by
  have E : pm_ent 32 = some (1, 1, 3, 1, pmc_32) := rfl
  refine pw_ld E (pc' := 1) (st' := [.ref 131]) rfl (fun _ => rfl) ?_
  refine pw_getI I E (c := 115) (k := 3) (pc' := 4) rfl rfl rfl rfl rfl rfl (fun hf1a hf1b hf1c hf1d => ?_)
  refine pw_zret E rfl (by omega) ?_
  exact ⟨rfl, ⟨_, rfl, by omega, by omega⟩⟩
set_option maxHeartbeats 4000000 in
theorem cm_33_115 {X : List (Nat × List Value)} {d : Nat} {h : pm_H} (hd : 1 ≤ d) (I : pw_I h)  : pw X d h 33 0 [some (.ref 131)] [] (fun h' v => h = h' ∧ ∃ a : Int, v = .inl (some (pw_i a)) ∧ 0 ≤ a ∧ a ≤ 20) := by
  have E : pm_ent 33 = some (1, 1, 3, 0, pmc_33) := rfl
  refine pw_ld E (pc' := 1) (st' := [.ref 131]) rfl (fun _ => rfl) ?_
  refine pw_getI I E (c := 115) (k := 2) (pc' := 4) rfl rfl rfl rfl rfl rfl (fun hf1a hf1b hf1c hf1d => ?_)
  refine pw_iret E rfl ?_
  exact ⟨rfl, ⟨_, rfl, by omega, by omega⟩⟩
set_option maxHeartbeats 4000000 in
theorem cm_34_115 {X : List (Nat × List Value)} {d : Nat} {h : pm_H} (hd : 2 ≤ d) (I : pw_I h) (c1 : Nat) (hc1 : pw_Lg c1) (c2 : Nat) (hc2 : pw_Lg c2) : pw X d h 34 0 [some (.ref 131), some (.ref (16 + c1)), some (.ref (16 + c2))] [] (fun h' v => pw_I h' ∧ pw_E [c1 + 1, c2 + 1] h h' ∧ v = .inl none) := by
  have E : pm_ent 34 = some (3, 3, 3, 4, pmc_34) := rfl
  have E0 : pw_E [c1 + 1, c2 + 1] h h := pw_E.rf _ _
  refine pw_ld E (pc' := 1) (st' := [.ref (16 + c1)]) rfl (fun _ => rfl) ?_
  refine pw_ld E (pc' := 2) (st' := [.ref 131, .ref (16 + c1)]) rfl (fun _ => rfl) ?_
  refine pw_getR (b := 132) I E (c := 115) (k := 0) (pc' := 5) rfl rfl rfl rfl rfl rfl rfl ?_
  obtain ⟨f1l, f1h, -⟩ := pw_obj (c := c1) I (pw_Lg_o hc1)
  refine pw_call (m' := 25) (As := [.ref (16 + c1), .ref 132]) (rest := []) (ls'' := [some (.ref (16 + c1)), some (.ref 132)]) (by omega) E rfl (fun _ => pw_iV rfl rfl rfl rfl (pw_cellI f1h rfl)) (rfl : pm_ent 25 = some (2, 2, 2, 4, pmc_25)) rfl rfl (cm_25 (by omega) I c1 hc1 116 (by unfold pw_Lg; omega)) ?_
  rintro h2 v3 ⟨h2I, h2E, rfl⟩
  refine ⟨_, rfl, ?_⟩
  have h2F := E0.tr (h2E.wk (W' := [c1 + 1, c2 + 1]) (by first | rfl | simp))
  show pw X d h2 34 8 [some (.ref 131), some (.ref (16 + c1)), some (.ref (16 + c2))] [] _
  refine pw_ld E (pc' := 9) (st' := [.ref (16 + c2)]) rfl (fun _ => rfl) ?_
  refine pw_ld E (pc' := 10) (st' := [.ref 131, .ref (16 + c2)]) rfl (fun _ => rfl) ?_
  refine pw_getR (b := 134) h2I E (c := 115) (k := 1) (pc' := 13) rfl rfl rfl rfl rfl rfl rfl ?_
  obtain ⟨f4l, f4h, -⟩ := pw_obj (c := c2) h2I (pw_Lg_o hc2)
  refine pw_call (m' := 25) (As := [.ref (16 + c2), .ref 134]) (rest := []) (ls'' := [some (.ref (16 + c2)), some (.ref 134)]) (by omega) E rfl (fun _ => pw_iV rfl rfl rfl rfl (pw_cellI f4h rfl)) (rfl : pm_ent 25 = some (2, 2, 2, 4, pmc_25)) rfl rfl (cm_25 (by omega) h2I c2 hc2 118 (by unfold pw_Lg; omega)) ?_
  rintro h5 v6 ⟨h5I, h5E, rfl⟩
  refine ⟨_, rfl, ?_⟩
  have h5F := h2F.tr (h5E.wk (W' := [c1 + 1, c2 + 1]) (by first | rfl | simp))
  show pw X d h5 34 16 [some (.ref 131), some (.ref (16 + c1)), some (.ref (16 + c2))] [] _
  refine pw_vret E rfl ?_
  exact ⟨h5I, h5F, rfl⟩
set_option maxHeartbeats 4000000 in
theorem cm_31_120 {X : List (Nat × List Value)} {d : Nat} {h : pm_H} (hd : 2 ≤ d) (I : pw_I h) (c1 : Nat) (hc1 : pw_Lg c1) (c2 : Nat) (hc2 : pw_Lg c2) (n : Int) (hn1 : 0 ≤ n) (hn2 : n ≤ 20) : pw X d h 31 0 [some (.ref 136), some (.ref (16 + c1)), some (.ref (16 + c2)), some (pw_i n)] [] (fun h' v => pw_I h' ∧ pw_E [120, 122, 124] h h' ∧ v = .inl none) := by
  have E : pm_ent 31 = some (4, 4, 3, 4, pmc_31) := rfl
  have E0 : pw_E [120, 122, 124] h h := pw_E.rf _ _
  refine pw_ld E (pc' := 1) (st' := [.ref 136]) rfl (fun _ => rfl) ?_
  refine pw_getR (b := 137) I E (c := 120) (k := 0) (pc' := 4) rfl rfl rfl rfl rfl rfl rfl ?_
  refine pw_ld E (pc' := 5) (st' := [.ref (16 + c1), .ref 137]) rfl (fun _ => rfl) ?_
  obtain ⟨f1l, f1h, -⟩ := pw_obj (c := 121) I rfl
  refine pw_call (m' := 25) (As := [.ref 137, .ref (16 + c1)]) (rest := []) (ls'' := [some (.ref 137), some (.ref (16 + c1))]) (by omega) E rfl (fun _ => pw_iV rfl rfl rfl rfl (pw_cellI f1h rfl)) (rfl : pm_ent 25 = some (2, 2, 2, 4, pmc_25)) rfl rfl (cm_25 (by omega) I 121 (by unfold pw_Lg; omega) c1 hc1) ?_
  rintro h2 v3 ⟨h2I, h2E, rfl⟩
  refine ⟨_, rfl, ?_⟩
  have h2F := E0.tr (h2E.wk (W' := [120, 122, 124]) (by first | rfl | simp))
  show pw X d h2 31 8 [some (.ref 136), some (.ref (16 + c1)), some (.ref (16 + c2)), some (pw_i n)] [] _
  refine pw_ld E (pc' := 9) (st' := [.ref 136]) rfl (fun _ => rfl) ?_
  refine pw_getR (b := 139) h2I E (c := 120) (k := 1) (pc' := 12) rfl rfl rfl rfl rfl rfl rfl ?_
  refine pw_ld E (pc' := 13) (st' := [.ref (16 + c2), .ref 139]) rfl (fun _ => rfl) ?_
  obtain ⟨f4l, f4h, -⟩ := pw_obj (c := 123) h2I rfl
  refine pw_call (m' := 25) (As := [.ref 139, .ref (16 + c2)]) (rest := []) (ls'' := [some (.ref 139), some (.ref (16 + c2))]) (by omega) E rfl (fun _ => pw_iV rfl rfl rfl rfl (pw_cellI f4h rfl)) (rfl : pm_ent 25 = some (2, 2, 2, 4, pmc_25)) rfl rfl (cm_25 (by omega) h2I 123 (by unfold pw_Lg; omega) c2 hc2) ?_
  rintro h5 v6 ⟨h5I, h5E, rfl⟩
  refine ⟨_, rfl, ?_⟩
  have h5F := h2F.tr (h5E.wk (W' := [120, 122, 124]) (by first | rfl | simp))
  show pw X d h5 31 16 [some (.ref 136), some (.ref (16 + c1)), some (.ref (16 + c2)), some (pw_i n)] [] _
  refine pw_ld E (pc' := 17) (st' := [.ref 136]) rfl (fun _ => rfl) ?_
  refine pw_ld E (pc' := 18) (st' := [pw_i n, .ref 136]) rfl (fun _ => rfl) ?_
  refine pw_putI h5I E (c := 120) (k := 2) (pc' := 21) rfl rfl rfl rfl (by omega) (by omega) (by omega) (by omega) rfl rfl ?_
  intro h7I h7E
  generalize h7w : pw_w h5 120 2 (pw_i n) = h7 at h7I h7E ⊢
  have h7F := h5F.tr (h7E.wk (W' := [120, 122, 124]) (by first | rfl | simp))
  refine pw_ld E (pc' := 22) (st' := [.ref 136]) rfl (fun _ => rfl) ?_
  refine pw_ld E (pc' := 23) (st' := [pw_i 1, .ref 136]) rfl (fun _ => rfl) ?_
  refine pw_putZ h7I E (c := 120) (k := 3) (pc' := 26) rfl rfl rfl rfl (by omega) (by omega) (by omega) rfl rfl ?_
  intro h8I h8E
  generalize h8w : pw_w h7 120 3 (pw_i 1) = h8 at h8I h8E ⊢
  have h8F := h7F.tr (h8E.wk (W' := [120, 122, 124]) (by first | rfl | simp))
  refine pw_vret E rfl ?_
  exact ⟨h8I, h8F, rfl⟩
set_option maxHeartbeats 4000000 in
theorem cm_32_120 {X : List (Nat × List Value)} {d : Nat} {h : pm_H} (hd : 1 ≤ d) (I : pw_I h)  : pw X d h 32 0 [some (.ref 136)] [] (fun h' v => h = h' ∧ ∃ a : Int, v = .inl (some (pw_i a)) ∧ 0 ≤ a ∧ a ≤ 1) := by
  have E : pm_ent 32 = some (1, 1, 3, 1, pmc_32) := rfl
  refine pw_ld E (pc' := 1) (st' := [.ref 136]) rfl (fun _ => rfl) ?_
  refine pw_getI I E (c := 120) (k := 3) (pc' := 4) rfl rfl rfl rfl rfl rfl (fun hf1a hf1b hf1c hf1d => ?_)
  refine pw_zret E rfl (by omega) ?_
  exact ⟨rfl, ⟨_, rfl, by omega, by omega⟩⟩
set_option maxHeartbeats 4000000 in
theorem cm_33_120 {X : List (Nat × List Value)} {d : Nat} {h : pm_H} (hd : 1 ≤ d) (I : pw_I h)  : pw X d h 33 0 [some (.ref 136)] [] (fun h' v => h = h' ∧ ∃ a : Int, v = .inl (some (pw_i a)) ∧ 0 ≤ a ∧ a ≤ 20) := by
  have E : pm_ent 33 = some (1, 1, 3, 0, pmc_33) := rfl
  refine pw_ld E (pc' := 1) (st' := [.ref 136]) rfl (fun _ => rfl) ?_
  refine pw_getI I E (c := 120) (k := 2) (pc' := 4) rfl rfl rfl rfl rfl rfl (fun hf1a hf1b hf1c hf1d => ?_)
  refine pw_iret E rfl ?_
  exact ⟨rfl, ⟨_, rfl, by omega, by omega⟩⟩
set_option maxHeartbeats 4000000 in
theorem cm_34_120 {X : List (Nat × List Value)} {d : Nat} {h : pm_H} (hd : 2 ≤ d) (I : pw_I h) (c1 : Nat) (hc1 : pw_Lg c1) (c2 : Nat) (hc2 : pw_Lg c2) : pw X d h 34 0 [some (.ref 136), some (.ref (16 + c1)), some (.ref (16 + c2))] [] (fun h' v => pw_I h' ∧ pw_E [c1 + 1, c2 + 1] h h' ∧ v = .inl none) := by
  have E : pm_ent 34 = some (3, 3, 3, 4, pmc_34) := rfl
  have E0 : pw_E [c1 + 1, c2 + 1] h h := pw_E.rf _ _
  refine pw_ld E (pc' := 1) (st' := [.ref (16 + c1)]) rfl (fun _ => rfl) ?_
  refine pw_ld E (pc' := 2) (st' := [.ref 136, .ref (16 + c1)]) rfl (fun _ => rfl) ?_
  refine pw_getR (b := 137) I E (c := 120) (k := 0) (pc' := 5) rfl rfl rfl rfl rfl rfl rfl ?_
  obtain ⟨f1l, f1h, -⟩ := pw_obj (c := c1) I (pw_Lg_o hc1)
  refine pw_call (m' := 25) (As := [.ref (16 + c1), .ref 137]) (rest := []) (ls'' := [some (.ref (16 + c1)), some (.ref 137)]) (by omega) E rfl (fun _ => pw_iV rfl rfl rfl rfl (pw_cellI f1h rfl)) (rfl : pm_ent 25 = some (2, 2, 2, 4, pmc_25)) rfl rfl (cm_25 (by omega) I c1 hc1 121 (by unfold pw_Lg; omega)) ?_
  rintro h2 v3 ⟨h2I, h2E, rfl⟩
  refine ⟨_, rfl, ?_⟩
  have h2F := E0.tr (h2E.wk (W' := [c1 + 1, c2 + 1]) (by first | rfl | simp))
  show pw X d h2 34 8 [some (.ref 136), some (.ref (16 + c1)), some (.ref (16 + c2))] [] _
  refine pw_ld E (pc' := 9) (st' := [.ref (16 + c2)]) rfl (fun _ => rfl) ?_
  refine pw_ld E (pc' := 10) (st' := [.ref 136, .ref (16 + c2)]) rfl (fun _ => rfl) ?_
  refine pw_getR (b := 139) h2I E (c := 120) (k := 1) (pc' := 13) rfl rfl rfl rfl rfl rfl rfl ?_
  obtain ⟨f4l, f4h, -⟩ := pw_obj (c := c2) h2I (pw_Lg_o hc2)
  refine pw_call (m' := 25) (As := [.ref (16 + c2), .ref 139]) (rest := []) (ls'' := [some (.ref (16 + c2)), some (.ref 139)]) (by omega) E rfl (fun _ => pw_iV rfl rfl rfl rfl (pw_cellI f4h rfl)) (rfl : pm_ent 25 = some (2, 2, 2, 4, pmc_25)) rfl rfl (cm_25 (by omega) h2I c2 hc2 123 (by unfold pw_Lg; omega)) ?_
  rintro h5 v6 ⟨h5I, h5E, rfl⟩
  refine ⟨_, rfl, ?_⟩
  have h5F := h2F.tr (h5E.wk (W' := [c1 + 1, c2 + 1]) (by first | rfl | simp))
  show pw X d h5 34 16 [some (.ref 136), some (.ref (16 + c1)), some (.ref (16 + c2))] [] _
  refine pw_vret E rfl ?_
  exact ⟨h5I, h5F, rfl⟩
