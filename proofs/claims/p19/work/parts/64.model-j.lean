section
/-! contracts (printed by wip/tool/pwspec.py) -/
set_option maxHeartbeats 4000000 in
theorem cm_297 {X : List (Nat × List Value)} {d : Nat} {h : pm_H} (hd : 1 ≤ d) (I : pw_I h) (x : Int64) : pw X d h 297 0 [some (.long x), none] [] (fun h' v => h = h' ∧ ∃ a : Int, v = .inl (some (pw_i a)) ∧ (-1) ≤ a ∧ a ≤ 1) := by
  have E : pm_ent 297 = some (1, 2, 12, 0, pmc_297) := rfl
  refine pw_ld E (pc' := 1) (st' := [.long x]) rfl (fun _ => rfl) ?_
  refine pw_ld E (pc' := 2) (st' := [.long (Int64.ofInt 0), .long x]) rfl (fun _ => rfl) ?_
  refine pw_lcmp E (pc' := 3) rfl rfl (fun c1 hc1 => ?_)
  refine pw_if E (pc' := 10) rfl (by decide) (by omega) (by omega) ?_ ?_
  · intro hc2
    change (0 : Int) ≤ c1 at hc2
    refine pw_ld E (pc' := 11) (st' := [.long x]) rfl (fun _ => rfl) ?_
    refine pw_ld E (pc' := 12) (st' := [.long (Int64.ofInt 0), .long x]) rfl (fun _ => rfl) ?_
    refine pw_lcmp E (pc' := 13) rfl rfl (fun c3 hc3 => ?_)
    refine pw_if E (pc' := 20) rfl (by decide) (by omega) (by omega) ?_ ?_
    · intro hc4
      change c3 ≤ (0 : Int) at hc4
      refine pw_ld E (pc' := 21) (st' := [pw_i 0]) rfl (fun _ => rfl) ?_
      refine pw_iret E rfl ?_
      exact ⟨rfl, ⟨_, rfl, by omega, by omega⟩⟩
    · intro hc5
      change ¬ (c3 ≤ (0 : Int)) at hc5
      refine pw_ld E (pc' := 17) (st' := [pw_i 1]) rfl (fun _ => rfl) ?_
      refine pw_goto E (pc' := 21) rfl (by decide) ?_
      refine pw_iret E rfl ?_
      exact ⟨rfl, ⟨_, rfl, by omega, by omega⟩⟩
  · intro hc6
    change ¬ ((0 : Int) ≤ c1) at hc6
    refine pw_ld E (pc' := 7) (st' := [pw_i ((-1))]) rfl (fun _ => rfl) ?_
    refine pw_goto E (pc' := 21) rfl (by decide) ?_
    refine pw_iret E rfl ?_
    exact ⟨rfl, ⟨_, rfl, by omega, by omega⟩⟩
set_option maxHeartbeats 4000000 in
theorem cm_299_164 {X : List (Nat × List Value)} {d : Nat} {h : pm_H} (hd : 1 ≤ d) (I : pw_I h) (st : Int) (hst1 : (-2147483648) ≤ st) (hst2 : st ≤ 2147483647) : pw X d h 299 0 [some (.ref 180), some (pw_i st), none, none, none] [] (fun h' v => h = h' ∧ ∃ w : Int64, v = .inl (some (.long w))) := by
  have E : pm_ent 299 = some (2, 5, 12, 2, pmc_299) := rfl
  refine pw_ld E (pc' := 1) (st' := [.long (Int64.ofInt 0)]) rfl (fun _ => rfl) ?_
  refine pw_lstn E (pc' := 2) (ls' := [some (.ref 180), some (pw_i st), some (.long (Int64.ofInt 0)), none, none]) rfl rfl rfl rfl ?_
  refine pw_ld E (pc' := 3) (st' := [pw_i 0]) rfl (fun _ => rfl) ?_
  refine pw_ist E (pc' := 5) (ls' := [some (.ref 180), some (pw_i st), some (.long (Int64.ofInt 0)), none, some (pw_i 0)]) rfl rfl rfl rfl ?_
  have L5 : ∀ (n5 : Nat) (k5_2 : Int64) (k5_4 : Int), 0 ≤ k5_4 → k5_4 ≤ 9 → (9 - k5_4).toNat = n5 → pw X d h 299 5 [some (.ref 180), some (pw_i st), some (.long k5_2), none, some (pw_i k5_4)] [] (fun h' v => h = h' ∧ ∃ w : Int64, v = .inl (some (.long w))) := by
    intro n5
    induction n5 using Nat.strongRecOn with
    | ind n5 ih5 =>
      intro k5_2 k5_4 k5_4a k5_4b hm5
      refine pw_ld E (pc' := 7) (st' := [pw_i k5_4]) rfl (fun _ => rfl) ?_
      refine pw_bip E (pc' := 9) rfl rfl (by decide) ?_
      refine pw_if2 E (pc' := 40) rfl (by decide) (by omega) (by omega) (by decide) (by decide) ?_ ?_
      · intro hc1
        change (9 : Int) ≤ k5_4 at hc1
        refine pw_ld E (pc' := 41) (st' := [.long k5_2]) rfl (fun _ => rfl) ?_
        refine pw_lret E rfl ?_
        exact ⟨rfl, ⟨_, rfl⟩⟩
      · intro hc2
        change ¬ ((9 : Int) ≤ k5_4) at hc2
        refine pw_ld E (pc' := 13) (st' := [.long k5_2]) rfl (fun _ => rfl) ?_
        refine pw_ld E (pc' := 14) (st' := [pw_i st, .long k5_2]) rfl (fun _ => rfl) ?_
        refine pw_ld E (pc' := 16) (st' := [pw_i k5_4, pw_i st, .long k5_2]) rfl (fun _ => rfl) ?_
        refine pw_ii (f := fun x y => x >>> (y &&& 31)) E (pc' := 17) rfl (fun _ => rfl) ?_
        intro x3 hx3a hx3b
        refine pw_ld E (pc' := 18) (st' := [pw_i 1, pw_i x3, .long k5_2]) rfl (fun _ => rfl) ?_
        refine pw_ii (f := fun x y => x &&& y) E (pc' := 19) rfl (fun _ => rfl) ?_
        intro x4 hx4a hx4b
        refine pw_ld E (pc' := 20) (st' := [pw_i 1, pw_i x4, .long k5_2]) rfl (fun _ => rfl) ?_
        refine pw_if2 E (pc' := 31) rfl (by decide) (by omega) (by omega) (by decide) (by decide) ?_ ?_
        · intro hc5
          change x4 ≠ (1 : Int) at hc5
          refine pw_ld E (pc' := 32) (st' := [.long (Int64.ofInt 0), .long k5_2]) rfl (fun _ => rfl) ?_
          refine pw_ld E (pc' := 33) (st' := [.long (k5_2 + (Int64.ofInt 0))]) rfl (fun _ => rfl) ?_
          refine pw_lstn E (pc' := 34) (ls' := [some (.ref 180), some (pw_i st), some (.long (k5_2 + (Int64.ofInt 0))), none, some (pw_i k5_4)]) rfl rfl rfl rfl ?_
          refine pw_inc E (pc' := 37) (ls' := [some (.ref 180), some (pw_i st), some (.long (k5_2 + (Int64.ofInt 0))), none, some (pw_i (k5_4 + 1))]) rfl rfl rfl rfl ?_
          refine pw_goto E (pc' := 5) rfl (by decide) ?_
          exact ih5 _ (by omega) (k5_2 + (Int64.ofInt 0)) (k5_4 + 1)  (by omega) (by omega)  rfl
        · intro hc6
          change ¬ (x4 ≠ (1 : Int)) at hc6
          refine pw_ld E (pc' := 24) (st' := [.ref 180, .long k5_2]) rfl (fun _ => rfl) ?_
          refine pw_ld E (pc' := 26) (st' := [pw_i k5_4, .ref 180, .long k5_2]) rfl (fun _ => rfl) ?_
          refine pw_ald2 I E (c := 164) (pc' := 27) rfl rfl rfl (by decide) rfl (by decide) (by omega) (by omega) rfl (fun hf7a hf7b => ?_)
          refine pw_i2l E (pc' := 28) rfl rfl (by omega) (by omega) ?_
          refine pw_goto E (pc' := 32) rfl (by decide) ?_
          refine pw_ld E (pc' := 33) (st' := [.long (k5_2 + (Int64.ofInt (pw_g h 164 (k5_4.toNat))))]) rfl (fun _ => rfl) ?_
          refine pw_lstn E (pc' := 34) (ls' := [some (.ref 180), some (pw_i st), some (.long (k5_2 + (Int64.ofInt (pw_g h 164 (k5_4.toNat))))), none, some (pw_i k5_4)]) rfl rfl rfl rfl ?_
          refine pw_inc E (pc' := 37) (ls' := [some (.ref 180), some (pw_i st), some (.long (k5_2 + (Int64.ofInt (pw_g h 164 (k5_4.toNat))))), none, some (pw_i (k5_4 + 1))]) rfl rfl rfl rfl ?_
          refine pw_goto E (pc' := 5) rfl (by decide) ?_
          exact ih5 _ (by omega) (k5_2 + (Int64.ofInt (pw_g h 164 (k5_4.toNat)))) (k5_4 + 1)  (by omega) (by omega)  rfl
  exact L5 _ (Int64.ofInt 0) (0)  (by omega) (by omega)  rfl
set_option maxHeartbeats 4000000 in
theorem cm_299_165 {X : List (Nat × List Value)} {d : Nat} {h : pm_H} (hd : 1 ≤ d) (I : pw_I h) (st : Int) (hst1 : (-2147483648) ≤ st) (hst2 : st ≤ 2147483647) : pw X d h 299 0 [some (.ref 181), some (pw_i st), none, none, none] [] (fun h' v => h = h' ∧ ∃ w : Int64, v = .inl (some (.long w))) := by
  have E : pm_ent 299 = some (2, 5, 12, 2, pmc_299) := rfl
  refine pw_ld E (pc' := 1) (st' := [.long (Int64.ofInt 0)]) rfl (fun _ => rfl) ?_
  refine pw_lstn E (pc' := 2) (ls' := [some (.ref 181), some (pw_i st), some (.long (Int64.ofInt 0)), none, none]) rfl rfl rfl rfl ?_
  refine pw_ld E (pc' := 3) (st' := [pw_i 0]) rfl (fun _ => rfl) ?_
  refine pw_ist E (pc' := 5) (ls' := [some (.ref 181), some (pw_i st), some (.long (Int64.ofInt 0)), none, some (pw_i 0)]) rfl rfl rfl rfl ?_
  have L5 : ∀ (n5 : Nat) (k5_2 : Int64) (k5_4 : Int), 0 ≤ k5_4 → k5_4 ≤ 9 → (9 - k5_4).toNat = n5 → pw X d h 299 5 [some (.ref 181), some (pw_i st), some (.long k5_2), none, some (pw_i k5_4)] [] (fun h' v => h = h' ∧ ∃ w : Int64, v = .inl (some (.long w))) := by
    intro n5
    induction n5 using Nat.strongRecOn with
    | ind n5 ih5 =>
      intro k5_2 k5_4 k5_4a k5_4b hm5
      refine pw_ld E (pc' := 7) (st' := [pw_i k5_4]) rfl (fun _ => rfl) ?_
      refine pw_bip E (pc' := 9) rfl rfl (by decide) ?_
      refine pw_if2 E (pc' := 40) rfl (by decide) (by omega) (by omega) (by decide) (by decide) ?_ ?_
      · intro hc1
        change (9 : Int) ≤ k5_4 at hc1
        refine pw_ld E (pc' := 41) (st' := [.long k5_2]) rfl (fun _ => rfl) ?_
        refine pw_lret E rfl ?_
        exact ⟨rfl, ⟨_, rfl⟩⟩
      · intro hc2
        change ¬ ((9 : Int) ≤ k5_4) at hc2
        refine pw_ld E (pc' := 13) (st' := [.long k5_2]) rfl (fun _ => rfl) ?_
        refine pw_ld E (pc' := 14) (st' := [pw_i st, .long k5_2]) rfl (fun _ => rfl) ?_
        refine pw_ld E (pc' := 16) (st' := [pw_i k5_4, pw_i st, .long k5_2]) rfl (fun _ => rfl) ?_
        refine pw_ii (f := fun x y => x >>> (y &&& 31)) E (pc' := 17) rfl (fun _ => rfl) ?_
        intro x3 hx3a hx3b
        refine pw_ld E (pc' := 18) (st' := [pw_i 1, pw_i x3, .long k5_2]) rfl (fun _ => rfl) ?_
        refine pw_ii (f := fun x y => x &&& y) E (pc' := 19) rfl (fun _ => rfl) ?_
        intro x4 hx4a hx4b
        refine pw_ld E (pc' := 20) (st' := [pw_i 1, pw_i x4, .long k5_2]) rfl (fun _ => rfl) ?_
        refine pw_if2 E (pc' := 31) rfl (by decide) (by omega) (by omega) (by decide) (by decide) ?_ ?_
        · intro hc5
          change x4 ≠ (1 : Int) at hc5
          refine pw_ld E (pc' := 32) (st' := [.long (Int64.ofInt 0), .long k5_2]) rfl (fun _ => rfl) ?_
          refine pw_ld E (pc' := 33) (st' := [.long (k5_2 + (Int64.ofInt 0))]) rfl (fun _ => rfl) ?_
          refine pw_lstn E (pc' := 34) (ls' := [some (.ref 181), some (pw_i st), some (.long (k5_2 + (Int64.ofInt 0))), none, some (pw_i k5_4)]) rfl rfl rfl rfl ?_
          refine pw_inc E (pc' := 37) (ls' := [some (.ref 181), some (pw_i st), some (.long (k5_2 + (Int64.ofInt 0))), none, some (pw_i (k5_4 + 1))]) rfl rfl rfl rfl ?_
          refine pw_goto E (pc' := 5) rfl (by decide) ?_
          exact ih5 _ (by omega) (k5_2 + (Int64.ofInt 0)) (k5_4 + 1)  (by omega) (by omega)  rfl
        · intro hc6
          change ¬ (x4 ≠ (1 : Int)) at hc6
          refine pw_ld E (pc' := 24) (st' := [.ref 181, .long k5_2]) rfl (fun _ => rfl) ?_
          refine pw_ld E (pc' := 26) (st' := [pw_i k5_4, .ref 181, .long k5_2]) rfl (fun _ => rfl) ?_
          refine pw_ald2 I E (c := 165) (pc' := 27) rfl rfl rfl (by decide) rfl (by decide) (by omega) (by omega) rfl (fun hf7a hf7b => ?_)
          refine pw_i2l E (pc' := 28) rfl rfl (by omega) (by omega) ?_
          refine pw_goto E (pc' := 32) rfl (by decide) ?_
          refine pw_ld E (pc' := 33) (st' := [.long (k5_2 + (Int64.ofInt (pw_g h 165 (k5_4.toNat))))]) rfl (fun _ => rfl) ?_
          refine pw_lstn E (pc' := 34) (ls' := [some (.ref 181), some (pw_i st), some (.long (k5_2 + (Int64.ofInt (pw_g h 165 (k5_4.toNat))))), none, some (pw_i k5_4)]) rfl rfl rfl rfl ?_
          refine pw_inc E (pc' := 37) (ls' := [some (.ref 181), some (pw_i st), some (.long (k5_2 + (Int64.ofInt (pw_g h 165 (k5_4.toNat))))), none, some (pw_i (k5_4 + 1))]) rfl rfl rfl rfl ?_
          refine pw_goto E (pc' := 5) rfl (by decide) ?_
          exact ih5 _ (by omega) (k5_2 + (Int64.ofInt (pw_g h 165 (k5_4.toNat)))) (k5_4 + 1)  (by omega) (by omega)  rfl
  exact L5 _ (Int64.ofInt 0) (0)  (by omega) (by omega)  rfl
set_option maxHeartbeats 4000000 in
theorem cm_301 {X : List (Nat × List Value)} {d : Nat} {h : pm_H} (hd : 3 ≤ d) (I : pw_I h) (mo : Int) (hmo1 : (-2147483648) ≤ mo) (hmo2 : mo ≤ 2147483647) (wt : Int) (hwt1 : (-2147483648) ≤ wt) (hwt2 : wt ≤ 2147483647) : pw X d h 301 0 [some (.ref 141), some (pw_i mo), some (pw_i wt), none, none, none, none, none, none] [] (fun h' v => pw_I h' ∧ pw_E [125] h h' ∧ ∃ a : Int, v = .inl (some (pw_i a)) ∧ (-2147483648) ≤ a ∧ a ≤ 2147483647) := by
  have E : pm_ent 301 = some (3, 9, 12, 0, pmc_301) := rfl
  have E0 : pw_E [125] h h := pw_E.rf _ _
  refine pw_ld E (pc' := 1) (st' := [.ref 141]) rfl (fun _ => rfl) ?_
  refine pw_ld E (pc' := 2) (st' := [pw_i 0, .ref 141]) rfl (fun _ => rfl) ?_
  refine pw_putI I E (c := 125) (k := 0) (pc' := 5) rfl rfl rfl rfl (by omega) (by omega) (by omega) (by omega) rfl rfl ?_
  intro h1I h1E
  generalize h1w : pw_w h 125 0 (pw_i 0) = h1 at h1I h1E ⊢
  have h1F := E0.tr (h1E.wk (W' := [125]) (by first | rfl | simp))
  refine pw_ld E (pc' := 6) (st' := [pw_i mo]) rfl (fun _ => rfl) ?_
  refine pw_call (m' := 205) (As := [pw_i mo]) (rest := []) (ls'' := [some (pw_i mo)]) (Nat.le_trans (by decide) hd) E rfl (fun _ => pw_iS rfl rfl rfl) (rfl : pm_ent 205 = some (1, 1, 12, 1, pmc_205)) rfl rfl (cm_205 (pw_dp hd (by decide)) h1I (mo) (by omega) (by omega)) ?_
  rintro u3 v2 ⟨rfl, x4, rfl, hx4a, hx4b, hx4r⟩
  refine ⟨_, rfl, ?_⟩
  show pw X d h1 301 9 [some (.ref 141), some (pw_i mo), some (pw_i wt), none, none, none, none, none, none] [pw_i x4] _
  change (x4 = 1 ∧ 0 ≤ mo ∧ mo ≤ 11) ∨ (x4 = 0 ∧ ¬ (0 ≤ mo ∧ mo ≤ 11)) at hx4r
  rcases (by omega : x4 = 1 ∨ x4 = 0) with hb5 | hb5
  · skip
    refine pw_if E (pc' := 21) rfl (by decide) (by omega) (by omega) ?_ ?_
    · intro hc6
      change x4 = (0 : Int) at hc6
      exfalso; omega
    · intro hc7
      change ¬ (x4 = (0 : Int)) at hc7
      refine pw_ld E (pc' := 13) (st' := [pw_i wt]) rfl (fun _ => rfl) ?_
      refine pw_ld E (pc' := 14) (st' := [pw_i 0, pw_i wt]) rfl (fun _ => rfl) ?_
      refine pw_ld E (pc' := 15) (st' := [pw_i 2, pw_i 0, pw_i wt]) rfl (fun _ => rfl) ?_
      refine pw_call (m' := 202) (As := [pw_i wt, pw_i 0, pw_i 2]) (rest := []) (ls'' := [some (pw_i wt), some (pw_i 0), some (pw_i 2)]) (Nat.le_trans (by decide) hd) E rfl (fun _ => pw_iS rfl rfl rfl) (rfl : pm_ent 202 = some (3, 3, 12, 1, pmc_202)) rfl rfl (cm_202 (pw_dp hd (by decide)) h1I (wt) (by omega) (by omega) (0) (by omega) (by omega) (2) (by omega) (by omega)) ?_
      rintro u9 v8 ⟨rfl, x10, rfl, hx10a, hx10b, hx10r⟩
      refine ⟨_, rfl, ?_⟩
      show pw X d h1 301 18 [some (.ref 141), some (pw_i mo), some (pw_i wt), none, none, none, none, none, none] [pw_i x10] _
      change (x10 = 1 ∧ 0 ≤ wt ∧ wt ≤ 2) ∨ (x10 = 0 ∧ ¬ (0 ≤ wt ∧ wt ≤ 2)) at hx10r
      rcases (by omega : x10 = 1 ∨ x10 = 0) with hb11 | hb11
      · skip
        refine pw_if E (pc' := 23) rfl (by decide) (by omega) (by omega) ?_ ?_
        · intro hc12
          change x10 ≠ (0 : Int) at hc12
          refine pw_ld E (pc' := 24) (st' := [pw_i 0]) rfl (fun _ => rfl) ?_
          refine pw_istn E (pc' := 25) (ls' := [some (.ref 141), some (pw_i mo), some (pw_i wt), some (pw_i 0), none, none, none, none, none]) rfl rfl rfl rfl ?_
          refine pw_ld E (pc' := 26) (st' := [pw_i 0]) rfl (fun _ => rfl) ?_
          refine pw_ist E (pc' := 28) (ls' := [some (.ref 141), some (pw_i mo), some (pw_i wt), some (pw_i 0), some (pw_i 0), none, none, none, none]) rfl rfl rfl rfl ?_
          refine pw_ld E (pc' := 29) (st' := [pw_i 0]) rfl (fun _ => rfl) ?_
          refine pw_ist E (pc' := 31) (ls' := [some (.ref 141), some (pw_i mo), some (pw_i wt), some (pw_i 0), some (pw_i 0), some (pw_i 0), none, none, none]) rfl rfl rfl rfl ?_
          refine pw_ld E (pc' := 32) (st' := [pw_i 0]) rfl (fun _ => rfl) ?_
          refine pw_ist E (pc' := 34) (ls' := [some (.ref 141), some (pw_i mo), some (pw_i wt), some (pw_i 0), some (pw_i 0), some (pw_i 0), some (pw_i 0), none, none]) rfl rfl rfl rfl ?_
          have L34 : ∀ (n34 : Nat) (k34_3 : Int) (k34_4 : Int) (k34_5 : Int) (k34_6 : Int) (k34_7 : Option Value) (k34_8 : Option Value), 0 ≤ k34_3 → k34_3 ≤ 24 → (-2147483648) ≤ k34_4 → k34_4 ≤ 2147483647 → (-2147483648) ≤ k34_5 → k34_5 ≤ 2147483647 → 0 ≤ k34_6 → k34_6 ≤ 24 → k34_3 + 0 ≤ k34_6 + 0 → (24 - k34_6).toNat = n34 → pw X d h1 301 34 [some (.ref 141), some (pw_i mo), some (pw_i wt), some (pw_i k34_3), some (pw_i k34_4), some (pw_i k34_5), some (pw_i k34_6), k34_7, k34_8] [] (fun h' v => pw_I h' ∧ pw_E [125] h h' ∧ ∃ a : Int, v = .inl (some (pw_i a)) ∧ (-2147483648) ≤ a ∧ a ≤ 2147483647) := by
            intro n34
            induction n34 using Nat.strongRecOn with
            | ind n34 ih34 =>
              intro k34_3 k34_4 k34_5 k34_6 k34_7 k34_8 k34_3a k34_3b k34_4a k34_4b k34_5a k34_5b k34_6a k34_6b hx34_0 hm34
              refine pw_ld E (pc' := 36) (st' := [pw_i k34_6]) rfl (fun _ => rfl) ?_
              refine pw_bip E (pc' := 38) rfl rfl (by decide) ?_
              refine pw_if2 E (pc' := 152) rfl (by decide) (by omega) (by omega) (by decide) (by decide) ?_ ?_
              · intro hc13
                change (24 : Int) ≤ k34_6 at hc13
                refine pw_ld E (pc' := 153) (st' := [pw_i wt]) rfl (fun _ => rfl) ?_
                refine pw_if E (pc' := 160) rfl (by decide) (by omega) (by omega) ?_ ?_
                · intro hc14
                  change wt ≠ (0 : Int) at hc14
                  refine pw_ld E (pc' := 161) (st' := [pw_i wt]) rfl (fun _ => rfl) ?_
                  refine pw_ld E (pc' := 162) (st' := [pw_i 1, pw_i wt]) rfl (fun _ => rfl) ?_
                  refine pw_if2 E (pc' := 170) rfl (by decide) (by omega) (by omega) (by decide) (by decide) ?_ ?_
                  · intro hc15
                    change wt ≠ (1 : Int) at hc15
                    refine pw_ld E (pc' := 172) (st' := [pw_i k34_5]) rfl (fun _ => rfl) ?_
                    refine pw_iret E rfl ?_
                    exact ⟨h1I, h1F, ⟨_, rfl, by omega, by omega⟩⟩
                  · intro hc16
                    change ¬ (wt ≠ (1 : Int)) at hc16
                    refine pw_ld E (pc' := 167) (st' := [pw_i k34_4]) rfl (fun _ => rfl) ?_
                    refine pw_goto E (pc' := 172) rfl (by decide) ?_
                    refine pw_iret E rfl ?_
                    exact ⟨h1I, h1F, ⟨_, rfl, by omega, by omega⟩⟩
                · intro hc17
                  change ¬ (wt ≠ (0 : Int)) at hc17
                  refine pw_ld E (pc' := 157) (st' := [pw_i k34_3]) rfl (fun _ => rfl) ?_
                  refine pw_goto E (pc' := 172) rfl (by decide) ?_
                  refine pw_iret E rfl ?_
                  exact ⟨h1I, h1F, ⟨_, rfl, by omega, by omega⟩⟩
              · intro hc18
                change ¬ ((24 : Int) ≤ k34_6) at hc18
                refine pw_bip E (pc' := 43) rfl rfl (by decide) ?_
                refine pw_ld E (pc' := 45) (st' := [pw_i k34_6, pw_i 12]) rfl (fun _ => rfl) ?_
                refine pw_mul E (pc' := 46) rfl rfl ?_
                refine pw_ld E (pc' := 47) (st' := [pw_i mo, pw_i (12 * k34_6)]) rfl (fun _ => rfl) ?_
                refine pw_add E (pc' := 48) rfl rfl ?_
                refine pw_ist E (pc' := 50) (ls' := [some (.ref 141), some (pw_i mo), some (pw_i wt), some (pw_i k34_3), some (pw_i k34_4), some (pw_i k34_5), some (pw_i k34_6), some (pw_i ((12 * k34_6) + mo)), k34_8]) rfl rfl rfl rfl ?_
                refine pw_ld E (pc' := 51) (st' := [.ref 141]) rfl (fun _ => rfl) ?_
                refine pw_getR (b := 147) h1I E (c := 125) (k := 10) (pc' := 54) rfl rfl rfl rfl rfl rfl rfl ?_
                refine pw_ld E (pc' := 56) (st' := [pw_i k34_6, .ref 147]) rfl (fun _ => rfl) ?_
                refine pw_ald2 h1I E (c := 131) (pc' := 57) rfl rfl rfl (by decide) rfl (by decide) (by omega) (by omega) rfl (fun hf19a hf19b => ?_)
                refine pw_if E (pc' := 146) rfl (by decide) (by omega) (by omega) ?_ ?_
                · intro hc20
                  change pw_g h1 131 (k34_6.toNat) = (0 : Int) at hc20
                  refine pw_inc E (pc' := 149) (ls' := [some (.ref 141), some (pw_i mo), some (pw_i wt), some (pw_i k34_3), some (pw_i k34_4), some (pw_i k34_5), some (pw_i (k34_6 + 1)), some (pw_i ((12 * k34_6) + mo)), k34_8]) rfl rfl rfl rfl ?_
                  refine pw_goto E (pc' := 34) rfl (by decide) ?_
                  exact ih34 _ (by omega) (k34_3) (k34_4) (k34_5) (k34_6 + 1) (some (pw_i ((12 * k34_6) + mo))) k34_8  (by omega) (by omega) (by omega) (by omega) (by omega) (by omega) (by omega) (by omega) (by omega) rfl
                · intro hc21
                  change ¬ (pw_g h1 131 (k34_6.toNat) = (0 : Int)) at hc21
                  refine pw_ld E (pc' := 61) (st' := [.ref 141]) rfl (fun _ => rfl) ?_
                  refine pw_getR (b := 154) h1I E (c := 125) (k := 18) (pc' := 64) rfl rfl rfl rfl rfl rfl rfl ?_
                  refine pw_ld E (pc' := 66) (st' := [pw_i ((12 * k34_6) + mo), .ref 154]) rfl (fun _ => rfl) ?_
                  refine pw_ald2 h1I E (c := 138) (pc' := 67) rfl rfl rfl (by decide) rfl (by decide) (by omega) (by omega) rfl (fun hf22a hf22b => ?_)
                  refine pw_if E (pc' := 146) rfl (by decide) (by omega) (by omega) ?_ ?_
                  · intro hc23
                    change pw_g h1 138 (((12 * k34_6) + mo).toNat) = (0 : Int) at hc23
                    refine pw_inc E (pc' := 149) (ls' := [some (.ref 141), some (pw_i mo), some (pw_i wt), some (pw_i k34_3), some (pw_i k34_4), some (pw_i k34_5), some (pw_i (k34_6 + 1)), some (pw_i ((12 * k34_6) + mo)), k34_8]) rfl rfl rfl rfl ?_
                    refine pw_goto E (pc' := 34) rfl (by decide) ?_
                    exact ih34 _ (by omega) (k34_3) (k34_4) (k34_5) (k34_6 + 1) (some (pw_i ((12 * k34_6) + mo))) k34_8  (by omega) (by omega) (by omega) (by omega) (by omega) (by omega) (by omega) (by omega) (by omega) rfl
                  · intro hc24
                    change ¬ (pw_g h1 138 (((12 * k34_6) + mo).toNat) = (0 : Int)) at hc24
                    refine pw_ld E (pc' := 71) (st' := [.ref 141]) rfl (fun _ => rfl) ?_
                    refine pw_getR (b := 157) h1I E (c := 125) (k := 21) (pc' := 74) rfl rfl rfl rfl rfl rfl rfl ?_
                    refine pw_ld E (pc' := 76) (st' := [pw_i ((12 * k34_6) + mo), .ref 157]) rfl (fun _ => rfl) ?_
                    refine pw_ald2 h1I E (c := 141) (pc' := 77) rfl rfl rfl (by decide) rfl (by decide) (by omega) (by omega) rfl (fun hf25a hf25b => ?_)
                    refine pw_ld E (pc' := 78) (st' := [pw_i 1, pw_i (pw_g h1 141 (((12 * k34_6) + mo).toNat))]) rfl (fun _ => rfl) ?_
                    refine pw_if2 E (pc' := 146) rfl (by decide) (by omega) (by omega) (by decide) (by decide) ?_ ?_
                    · intro hc26
                      change pw_g h1 141 (((12 * k34_6) + mo).toNat) ≠ (1 : Int) at hc26
                      refine pw_inc E (pc' := 149) (ls' := [some (.ref 141), some (pw_i mo), some (pw_i wt), some (pw_i k34_3), some (pw_i k34_4), some (pw_i k34_5), some (pw_i (k34_6 + 1)), some (pw_i ((12 * k34_6) + mo)), k34_8]) rfl rfl rfl rfl ?_
                      refine pw_goto E (pc' := 34) rfl (by decide) ?_
                      exact ih34 _ (by omega) (k34_3) (k34_4) (k34_5) (k34_6 + 1) (some (pw_i ((12 * k34_6) + mo))) k34_8  (by omega) (by omega) (by omega) (by omega) (by omega) (by omega) (by omega) (by omega) (by omega) rfl
                    · intro hc27
                      change ¬ (pw_g h1 141 (((12 * k34_6) + mo).toNat) ≠ (1 : Int)) at hc27
                      refine pw_ld E (pc' := 82) (st' := [.ref 141]) rfl (fun _ => rfl) ?_
                      refine pw_ld E (pc' := 84) (st' := [pw_i k34_6, .ref 141]) rfl (fun _ => rfl) ?_
                      refine pw_ld E (pc' := 85) (st' := [pw_i mo, pw_i k34_6, .ref 141]) rfl (fun _ => rfl) ?_
                      obtain ⟨f28l, f28h, -⟩ := pw_obj (c := 125) h1I rfl
                      refine pw_call (m' := 210) (As := [.ref 141, pw_i k34_6, pw_i mo]) (rest := []) (ls'' := [some (.ref 141), some (pw_i k34_6), some (pw_i mo)]) (Nat.le_trans (by decide) hd) E rfl (fun _ => pw_iV rfl rfl rfl rfl (pw_cellI f28h rfl)) (rfl : pm_ent 210 = some (3, 3, 12, 0, pmc_210)) rfl rfl (cm_210 (pw_dp hd (by decide)) h1I (k34_6) (by omega) (by omega) (mo) (by omega) (by omega)) ?_
                      rintro u30 v29 ⟨rfl, x31, rfl, hx31a, hx31b⟩
                      refine ⟨_, rfl, ?_⟩
                      show pw X d h1 301 88 [some (.ref 141), some (pw_i mo), some (pw_i wt), some (pw_i k34_3), some (pw_i k34_4), some (pw_i k34_5), some (pw_i k34_6), some (pw_i ((12 * k34_6) + mo)), k34_8] [pw_i x31] _
                      refine pw_ld E (pc' := 89) (st' := [.ref 141, pw_i x31]) rfl (fun _ => rfl) ?_
                      refine pw_ld E (pc' := 91) (st' := [pw_i ((12 * k34_6) + mo), .ref 141, pw_i x31]) rfl (fun _ => rfl) ?_
                      obtain ⟨f32l, f32h, -⟩ := pw_obj (c := 125) h1I rfl
                      refine pw_call (m' := 302) (As := [.ref 141, pw_i ((12 * k34_6) + mo)]) (rest := [pw_i x31]) (ls'' := [some (.ref 141), some (pw_i ((12 * k34_6) + mo))]) (Nat.le_trans (by decide) hd) E rfl (fun _ => pw_iV rfl rfl rfl rfl (pw_cellI f32h rfl)) (rfl : pm_ent 302 = some (2, 2, 12, 0, pmc_302)) rfl rfl (cm_302 (pw_dp hd (by decide)) h1I ((12 * k34_6) + mo) (by omega) (by omega)) ?_
                      rintro u34 v33 ⟨rfl, x35, rfl, hx35a, hx35b⟩
                      refine ⟨_, rfl, ?_⟩
                      show pw X d h1 301 94 [some (.ref 141), some (pw_i mo), some (pw_i wt), some (pw_i k34_3), some (pw_i k34_4), some (pw_i k34_5), some (pw_i k34_6), some (pw_i ((12 * k34_6) + mo)), k34_8] [pw_i x35, pw_i x31] _
                      refine pw_sub E (pc' := 95) rfl rfl ?_
                      refine pw_nm (fun x36 hx36a hx36b => ?_)
                      refine pw_ist E (pc' := 97) (ls' := [some (.ref 141), some (pw_i mo), some (pw_i wt), some (pw_i k34_3), some (pw_i k34_4), some (pw_i k34_5), some (pw_i k34_6), some (pw_i ((12 * k34_6) + mo)), some (pw_i x36)]) rfl rfl rfl rfl ?_
                      refine pw_ld E (pc' := 99) (st' := [pw_i x36]) rfl (fun _ => rfl) ?_
                      refine pw_if E (pc' := 108) rfl (by decide) (by omega) (by omega) ?_ ?_
                      · intro hc37
                        change (0 : Int) ≤ x36 at hc37
                        refine pw_ld E (pc' := 110) (st' := [pw_i x36]) rfl (fun _ => rfl) ?_
                        refine pw_ist E (pc' := 112) (ls' := [some (.ref 141), some (pw_i mo), some (pw_i wt), some (pw_i k34_3), some (pw_i k34_4), some (pw_i k34_5), some (pw_i k34_6), some (pw_i ((12 * k34_6) + mo)), some (pw_i x36)]) rfl rfl rfl rfl ?_
                        refine pw_inc E (pc' := 115) (ls' := [some (.ref 141), some (pw_i mo), some (pw_i wt), some (pw_i (k34_3 + 1)), some (pw_i k34_4), some (pw_i k34_5), some (pw_i k34_6), some (pw_i ((12 * k34_6) + mo)), some (pw_i x36)]) rfl rfl rfl rfl ?_
                        refine pw_ld E (pc' := 117) (st' := [pw_i k34_4]) rfl (fun _ => rfl) ?_
                        refine pw_ld E (pc' := 119) (st' := [pw_i x36, pw_i k34_4]) rfl (fun _ => rfl) ?_
                        refine pw_if E (pc' := 126) rfl (by decide) (by omega) (by omega) ?_ ?_
                        · intro hc38
                          change x36 ≤ (0 : Int) at hc38
                          refine pw_ld E (pc' := 127) (st' := [pw_i 0, pw_i k34_4]) rfl (fun _ => rfl) ?_
                          refine pw_add E (pc' := 128) rfl rfl ?_
                          refine pw_ist E (pc' := 130) (ls' := [some (.ref 141), some (pw_i mo), some (pw_i wt), some (pw_i (k34_3 + 1)), some (pw_i (k34_4 + 0)), some (pw_i k34_5), some (pw_i k34_6), some (pw_i ((12 * k34_6) + mo)), some (pw_i x36)]) rfl rfl rfl rfl ?_
                          refine pw_ld E (pc' := 132) (st' := [pw_i x36]) rfl (fun _ => rfl) ?_
                          refine pw_ld E (pc' := 134) (st' := [pw_i k34_5, pw_i x36]) rfl (fun _ => rfl) ?_
                          refine pw_if2 E (pc' := 142) rfl (by decide) (by omega) (by omega) (by omega) (by omega) ?_ ?_
                          · intro hc39
                            change x36 ≤ k34_5 at hc39
                            refine pw_ld E (pc' := 144) (st' := [pw_i k34_5]) rfl (fun _ => rfl) ?_
                            refine pw_ist E (pc' := 146) (ls' := [some (.ref 141), some (pw_i mo), some (pw_i wt), some (pw_i (k34_3 + 1)), some (pw_i (k34_4 + 0)), some (pw_i k34_5), some (pw_i k34_6), some (pw_i ((12 * k34_6) + mo)), some (pw_i x36)]) rfl rfl rfl rfl ?_
                            refine pw_inc E (pc' := 149) (ls' := [some (.ref 141), some (pw_i mo), some (pw_i wt), some (pw_i (k34_3 + 1)), some (pw_i (k34_4 + 0)), some (pw_i k34_5), some (pw_i (k34_6 + 1)), some (pw_i ((12 * k34_6) + mo)), some (pw_i x36)]) rfl rfl rfl rfl ?_
                            refine pw_goto E (pc' := 34) rfl (by decide) ?_
                            exact ih34 _ (by omega) (k34_3 + 1) (k34_4 + 0) (k34_5) (k34_6 + 1) (some (pw_i ((12 * k34_6) + mo))) (some (pw_i x36))  (by omega) (by omega) (by omega) (by omega) (by omega) (by omega) (by omega) (by omega) (by omega) rfl
                          · intro hc40
                            change ¬ (x36 ≤ k34_5) at hc40
                            refine pw_ld E (pc' := 139) (st' := [pw_i x36]) rfl (fun _ => rfl) ?_
                            refine pw_goto E (pc' := 144) rfl (by decide) ?_
                            refine pw_ist E (pc' := 146) (ls' := [some (.ref 141), some (pw_i mo), some (pw_i wt), some (pw_i (k34_3 + 1)), some (pw_i (k34_4 + 0)), some (pw_i x36), some (pw_i k34_6), some (pw_i ((12 * k34_6) + mo)), some (pw_i x36)]) rfl rfl rfl rfl ?_
                            refine pw_inc E (pc' := 149) (ls' := [some (.ref 141), some (pw_i mo), some (pw_i wt), some (pw_i (k34_3 + 1)), some (pw_i (k34_4 + 0)), some (pw_i x36), some (pw_i (k34_6 + 1)), some (pw_i ((12 * k34_6) + mo)), some (pw_i x36)]) rfl rfl rfl rfl ?_
                            refine pw_goto E (pc' := 34) rfl (by decide) ?_
                            exact ih34 _ (by omega) (k34_3 + 1) (k34_4 + 0) (x36) (k34_6 + 1) (some (pw_i ((12 * k34_6) + mo))) (some (pw_i x36))  (by omega) (by omega) (by omega) (by omega) (by omega) (by omega) (by omega) (by omega) (by omega) rfl
                        · intro hc41
                          change ¬ (x36 ≤ (0 : Int)) at hc41
                          refine pw_ld E (pc' := 123) (st' := [pw_i 1, pw_i k34_4]) rfl (fun _ => rfl) ?_
                          refine pw_goto E (pc' := 127) rfl (by decide) ?_
                          refine pw_add E (pc' := 128) rfl rfl ?_
                          refine pw_nm (fun x42 hx42a hx42b => ?_)
                          refine pw_ist E (pc' := 130) (ls' := [some (.ref 141), some (pw_i mo), some (pw_i wt), some (pw_i (k34_3 + 1)), some (pw_i x42), some (pw_i k34_5), some (pw_i k34_6), some (pw_i ((12 * k34_6) + mo)), some (pw_i x36)]) rfl rfl rfl rfl ?_
                          refine pw_ld E (pc' := 132) (st' := [pw_i x36]) rfl (fun _ => rfl) ?_
                          refine pw_ld E (pc' := 134) (st' := [pw_i k34_5, pw_i x36]) rfl (fun _ => rfl) ?_
                          refine pw_if2 E (pc' := 142) rfl (by decide) (by omega) (by omega) (by omega) (by omega) ?_ ?_
                          · intro hc43
                            change x36 ≤ k34_5 at hc43
                            refine pw_ld E (pc' := 144) (st' := [pw_i k34_5]) rfl (fun _ => rfl) ?_
                            refine pw_ist E (pc' := 146) (ls' := [some (.ref 141), some (pw_i mo), some (pw_i wt), some (pw_i (k34_3 + 1)), some (pw_i x42), some (pw_i k34_5), some (pw_i k34_6), some (pw_i ((12 * k34_6) + mo)), some (pw_i x36)]) rfl rfl rfl rfl ?_
                            refine pw_inc E (pc' := 149) (ls' := [some (.ref 141), some (pw_i mo), some (pw_i wt), some (pw_i (k34_3 + 1)), some (pw_i x42), some (pw_i k34_5), some (pw_i (k34_6 + 1)), some (pw_i ((12 * k34_6) + mo)), some (pw_i x36)]) rfl rfl rfl rfl ?_
                            refine pw_goto E (pc' := 34) rfl (by decide) ?_
                            exact ih34 _ (by omega) (k34_3 + 1) (x42) (k34_5) (k34_6 + 1) (some (pw_i ((12 * k34_6) + mo))) (some (pw_i x36))  (by omega) (by omega) (by omega) (by omega) (by omega) (by omega) (by omega) (by omega) (by omega) rfl
                          · intro hc44
                            change ¬ (x36 ≤ k34_5) at hc44
                            refine pw_ld E (pc' := 139) (st' := [pw_i x36]) rfl (fun _ => rfl) ?_
                            refine pw_goto E (pc' := 144) rfl (by decide) ?_
                            refine pw_ist E (pc' := 146) (ls' := [some (.ref 141), some (pw_i mo), some (pw_i wt), some (pw_i (k34_3 + 1)), some (pw_i x42), some (pw_i x36), some (pw_i k34_6), some (pw_i ((12 * k34_6) + mo)), some (pw_i x36)]) rfl rfl rfl rfl ?_
                            refine pw_inc E (pc' := 149) (ls' := [some (.ref 141), some (pw_i mo), some (pw_i wt), some (pw_i (k34_3 + 1)), some (pw_i x42), some (pw_i x36), some (pw_i (k34_6 + 1)), some (pw_i ((12 * k34_6) + mo)), some (pw_i x36)]) rfl rfl rfl rfl ?_
                            refine pw_goto E (pc' := 34) rfl (by decide) ?_
                            exact ih34 _ (by omega) (k34_3 + 1) (x42) (x36) (k34_6 + 1) (some (pw_i ((12 * k34_6) + mo))) (some (pw_i x36))  (by omega) (by omega) (by omega) (by omega) (by omega) (by omega) (by omega) (by omega) (by omega) rfl
                      · intro hc45
                        change ¬ ((0 : Int) ≤ x36) at hc45
                        refine pw_ld E (pc' := 104) (st' := [pw_i x36]) rfl (fun _ => rfl) ?_
                        refine pw_ineg E (pc' := 105) rfl rfl ?_
                        refine pw_nm (fun x46 hx46a hx46b => ?_)
                        refine pw_goto E (pc' := 110) rfl (by decide) ?_
                        refine pw_ist E (pc' := 112) (ls' := [some (.ref 141), some (pw_i mo), some (pw_i wt), some (pw_i k34_3), some (pw_i k34_4), some (pw_i k34_5), some (pw_i k34_6), some (pw_i ((12 * k34_6) + mo)), some (pw_i x46)]) rfl rfl rfl rfl ?_
                        refine pw_inc E (pc' := 115) (ls' := [some (.ref 141), some (pw_i mo), some (pw_i wt), some (pw_i (k34_3 + 1)), some (pw_i k34_4), some (pw_i k34_5), some (pw_i k34_6), some (pw_i ((12 * k34_6) + mo)), some (pw_i x46)]) rfl rfl rfl rfl ?_
                        refine pw_ld E (pc' := 117) (st' := [pw_i k34_4]) rfl (fun _ => rfl) ?_
                        refine pw_ld E (pc' := 119) (st' := [pw_i x46, pw_i k34_4]) rfl (fun _ => rfl) ?_
                        refine pw_if E (pc' := 126) rfl (by decide) (by omega) (by omega) ?_ ?_
                        · intro hc47
                          change x46 ≤ (0 : Int) at hc47
                          refine pw_ld E (pc' := 127) (st' := [pw_i 0, pw_i k34_4]) rfl (fun _ => rfl) ?_
                          refine pw_add E (pc' := 128) rfl rfl ?_
                          refine pw_ist E (pc' := 130) (ls' := [some (.ref 141), some (pw_i mo), some (pw_i wt), some (pw_i (k34_3 + 1)), some (pw_i (k34_4 + 0)), some (pw_i k34_5), some (pw_i k34_6), some (pw_i ((12 * k34_6) + mo)), some (pw_i x46)]) rfl rfl rfl rfl ?_
                          refine pw_ld E (pc' := 132) (st' := [pw_i x46]) rfl (fun _ => rfl) ?_
                          refine pw_ld E (pc' := 134) (st' := [pw_i k34_5, pw_i x46]) rfl (fun _ => rfl) ?_
                          refine pw_if2 E (pc' := 142) rfl (by decide) (by omega) (by omega) (by omega) (by omega) ?_ ?_
                          · intro hc48
                            change x46 ≤ k34_5 at hc48
                            refine pw_ld E (pc' := 144) (st' := [pw_i k34_5]) rfl (fun _ => rfl) ?_
                            refine pw_ist E (pc' := 146) (ls' := [some (.ref 141), some (pw_i mo), some (pw_i wt), some (pw_i (k34_3 + 1)), some (pw_i (k34_4 + 0)), some (pw_i k34_5), some (pw_i k34_6), some (pw_i ((12 * k34_6) + mo)), some (pw_i x46)]) rfl rfl rfl rfl ?_
                            refine pw_inc E (pc' := 149) (ls' := [some (.ref 141), some (pw_i mo), some (pw_i wt), some (pw_i (k34_3 + 1)), some (pw_i (k34_4 + 0)), some (pw_i k34_5), some (pw_i (k34_6 + 1)), some (pw_i ((12 * k34_6) + mo)), some (pw_i x46)]) rfl rfl rfl rfl ?_
                            refine pw_goto E (pc' := 34) rfl (by decide) ?_
                            exact ih34 _ (by omega) (k34_3 + 1) (k34_4 + 0) (k34_5) (k34_6 + 1) (some (pw_i ((12 * k34_6) + mo))) (some (pw_i x46))  (by omega) (by omega) (by omega) (by omega) (by omega) (by omega) (by omega) (by omega) (by omega) rfl
                          · intro hc49
                            change ¬ (x46 ≤ k34_5) at hc49
                            refine pw_ld E (pc' := 139) (st' := [pw_i x46]) rfl (fun _ => rfl) ?_
                            refine pw_goto E (pc' := 144) rfl (by decide) ?_
                            refine pw_ist E (pc' := 146) (ls' := [some (.ref 141), some (pw_i mo), some (pw_i wt), some (pw_i (k34_3 + 1)), some (pw_i (k34_4 + 0)), some (pw_i x46), some (pw_i k34_6), some (pw_i ((12 * k34_6) + mo)), some (pw_i x46)]) rfl rfl rfl rfl ?_
                            refine pw_inc E (pc' := 149) (ls' := [some (.ref 141), some (pw_i mo), some (pw_i wt), some (pw_i (k34_3 + 1)), some (pw_i (k34_4 + 0)), some (pw_i x46), some (pw_i (k34_6 + 1)), some (pw_i ((12 * k34_6) + mo)), some (pw_i x46)]) rfl rfl rfl rfl ?_
                            refine pw_goto E (pc' := 34) rfl (by decide) ?_
                            exact ih34 _ (by omega) (k34_3 + 1) (k34_4 + 0) (x46) (k34_6 + 1) (some (pw_i ((12 * k34_6) + mo))) (some (pw_i x46))  (by omega) (by omega) (by omega) (by omega) (by omega) (by omega) (by omega) (by omega) (by omega) rfl
                        · intro hc50
                          change ¬ (x46 ≤ (0 : Int)) at hc50
                          refine pw_ld E (pc' := 123) (st' := [pw_i 1, pw_i k34_4]) rfl (fun _ => rfl) ?_
                          refine pw_goto E (pc' := 127) rfl (by decide) ?_
                          refine pw_add E (pc' := 128) rfl rfl ?_
                          refine pw_nm (fun x51 hx51a hx51b => ?_)
                          refine pw_ist E (pc' := 130) (ls' := [some (.ref 141), some (pw_i mo), some (pw_i wt), some (pw_i (k34_3 + 1)), some (pw_i x51), some (pw_i k34_5), some (pw_i k34_6), some (pw_i ((12 * k34_6) + mo)), some (pw_i x46)]) rfl rfl rfl rfl ?_
                          refine pw_ld E (pc' := 132) (st' := [pw_i x46]) rfl (fun _ => rfl) ?_
                          refine pw_ld E (pc' := 134) (st' := [pw_i k34_5, pw_i x46]) rfl (fun _ => rfl) ?_
                          refine pw_if2 E (pc' := 142) rfl (by decide) (by omega) (by omega) (by omega) (by omega) ?_ ?_
                          · intro hc52
                            change x46 ≤ k34_5 at hc52
                            refine pw_ld E (pc' := 144) (st' := [pw_i k34_5]) rfl (fun _ => rfl) ?_
                            refine pw_ist E (pc' := 146) (ls' := [some (.ref 141), some (pw_i mo), some (pw_i wt), some (pw_i (k34_3 + 1)), some (pw_i x51), some (pw_i k34_5), some (pw_i k34_6), some (pw_i ((12 * k34_6) + mo)), some (pw_i x46)]) rfl rfl rfl rfl ?_
                            refine pw_inc E (pc' := 149) (ls' := [some (.ref 141), some (pw_i mo), some (pw_i wt), some (pw_i (k34_3 + 1)), some (pw_i x51), some (pw_i k34_5), some (pw_i (k34_6 + 1)), some (pw_i ((12 * k34_6) + mo)), some (pw_i x46)]) rfl rfl rfl rfl ?_
                            refine pw_goto E (pc' := 34) rfl (by decide) ?_
                            exact ih34 _ (by omega) (k34_3 + 1) (x51) (k34_5) (k34_6 + 1) (some (pw_i ((12 * k34_6) + mo))) (some (pw_i x46))  (by omega) (by omega) (by omega) (by omega) (by omega) (by omega) (by omega) (by omega) (by omega) rfl
                          · intro hc53
                            change ¬ (x46 ≤ k34_5) at hc53
                            refine pw_ld E (pc' := 139) (st' := [pw_i x46]) rfl (fun _ => rfl) ?_
                            refine pw_goto E (pc' := 144) rfl (by decide) ?_
                            refine pw_ist E (pc' := 146) (ls' := [some (.ref 141), some (pw_i mo), some (pw_i wt), some (pw_i (k34_3 + 1)), some (pw_i x51), some (pw_i x46), some (pw_i k34_6), some (pw_i ((12 * k34_6) + mo)), some (pw_i x46)]) rfl rfl rfl rfl ?_
                            refine pw_inc E (pc' := 149) (ls' := [some (.ref 141), some (pw_i mo), some (pw_i wt), some (pw_i (k34_3 + 1)), some (pw_i x51), some (pw_i x46), some (pw_i (k34_6 + 1)), some (pw_i ((12 * k34_6) + mo)), some (pw_i x46)]) rfl rfl rfl rfl ?_
                            refine pw_goto E (pc' := 34) rfl (by decide) ?_
                            exact ih34 _ (by omega) (k34_3 + 1) (x51) (x46) (k34_6 + 1) (some (pw_i ((12 * k34_6) + mo))) (some (pw_i x46))  (by omega) (by omega) (by omega) (by omega) (by omega) (by omega) (by omega) (by omega) (by omega) rfl
          exact L34 _ (0) (0) (0) (0) (none) (none)  (by omega) (by omega) (by omega) (by omega) (by omega) (by omega) (by omega) (by omega) (by omega) rfl
        · intro hc54
          change ¬ (x10 ≠ (0 : Int)) at hc54
          exfalso; omega
      · skip
        refine pw_if E (pc' := 23) rfl (by decide) (by omega) (by omega) ?_ ?_
        · intro hc56
          change x10 ≠ (0 : Int) at hc56
          exfalso; omega
        · intro hc57
          change ¬ (x10 ≠ (0 : Int)) at hc57
          refine pw_ld E (pc' := 22) (st' := [pw_i ((-1))]) rfl (fun _ => rfl) ?_
          refine pw_iret E rfl ?_
          exact ⟨h1I, h1F, ⟨_, rfl, by omega, by omega⟩⟩
  · skip
    refine pw_if E (pc' := 21) rfl (by decide) (by omega) (by omega) ?_ ?_
    · intro hc59
      change x4 = (0 : Int) at hc59
      refine pw_ld E (pc' := 22) (st' := [pw_i ((-1))]) rfl (fun _ => rfl) ?_
      refine pw_iret E rfl ?_
      exact ⟨h1I, h1F, ⟨_, rfl, by omega, by omega⟩⟩
    · intro hc60
      change ¬ (x4 = (0 : Int)) at hc60
      exfalso; omega
set_option maxHeartbeats 4000000 in
theorem cm_305 {X : List (Nat × List Value)} {d : Nat} {h : pm_H} (hd : 2 ≤ d) (I : pw_I h) (mo : Int) (hmo1 : 1 ≤ mo) (hmo2 : mo ≤ 11) : pw X d h 305 0 [some (.ref 141), some (pw_i mo), none, none, none, none, none, none, none] [] (fun h' v => h = h' ∧ ∃ a : Int, v = .inl (some (pw_i a)) ∧ (-2147483648) ≤ a ∧ a ≤ 2147483647) := by
  have E : pm_ent 305 = some (2, 9, 12, 0, pmc_305) := rfl
  refine pw_ld E (pc' := 1) (st' := [.ref 141]) rfl (fun _ => rfl) ?_
  refine pw_getR (b := 152) I E (c := 125) (k := 16) (pc' := 4) rfl rfl rfl rfl rfl rfl rfl ?_
  refine pw_ld E (pc' := 5) (st' := [pw_i mo, .ref 152]) rfl (fun _ => rfl) ?_
  refine pw_ald2 I E (c := 136) (pc' := 6) rfl rfl rfl (by decide) rfl (by decide) (by omega) (by omega) rfl (fun hf1a hf1b => ?_)
  refine pw_ld E (pc' := 7) (st' := [.ref 141, pw_i (pw_g h 136 (mo.toNat))]) rfl (fun _ => rfl) ?_
  refine pw_getR (b := 152) I E (c := 125) (k := 16) (pc' := 10) rfl rfl rfl rfl rfl rfl rfl ?_
  refine pw_ld E (pc' := 11) (st' := [pw_i mo, .ref 152, pw_i (pw_g h 136 (mo.toNat))]) rfl (fun _ => rfl) ?_
  refine pw_ld E (pc' := 12) (st' := [pw_i 1, pw_i mo, .ref 152, pw_i (pw_g h 136 (mo.toNat))]) rfl (fun _ => rfl) ?_
  refine pw_sub E (pc' := 13) rfl rfl ?_
  refine pw_ald2 I E (c := 136) (pc' := 14) rfl rfl rfl (by decide) rfl (by decide) (by omega) (by omega) rfl (fun hf2a hf2b => ?_)
  refine pw_sub E (pc' := 15) rfl rfl ?_
  refine pw_istn E (pc' := 16) (ls' := [some (.ref 141), some (pw_i mo), some (pw_i ((pw_g h 136 (mo.toNat)) - (pw_g h 136 ((mo - 1).toNat)))), none, none, none, none, none, none]) rfl rfl rfl rfl ?_
  refine pw_ld E (pc' := 17) (st' := [.ref 141]) rfl (fun _ => rfl) ?_
  refine pw_getR (b := 152) I E (c := 125) (k := 16) (pc' := 20) rfl rfl rfl rfl rfl rfl rfl ?_
  refine pw_bip E (pc' := 22) rfl rfl (by decide) ?_
  refine pw_ld E (pc' := 23) (st' := [pw_i mo, pw_i 12, .ref 152]) rfl (fun _ => rfl) ?_
  refine pw_add E (pc' := 24) rfl rfl ?_
  refine pw_ald2 I E (c := 136) (pc' := 25) rfl rfl rfl (by decide) rfl (by decide) (by omega) (by omega) rfl (fun hf3a hf3b => ?_)
  refine pw_ld E (pc' := 26) (st' := [.ref 141, pw_i (pw_g h 136 ((12 + mo).toNat))]) rfl (fun _ => rfl) ?_
  refine pw_getR (b := 152) I E (c := 125) (k := 16) (pc' := 29) rfl rfl rfl rfl rfl rfl rfl ?_
  refine pw_bip E (pc' := 31) rfl rfl (by decide) ?_
  refine pw_ld E (pc' := 32) (st' := [pw_i mo, pw_i 12, .ref 152, pw_i (pw_g h 136 ((12 + mo).toNat))]) rfl (fun _ => rfl) ?_
  refine pw_add E (pc' := 33) rfl rfl ?_
  refine pw_ld E (pc' := 34) (st' := [pw_i 1, pw_i (12 + mo), .ref 152, pw_i (pw_g h 136 ((12 + mo).toNat))]) rfl (fun _ => rfl) ?_
  refine pw_sub E (pc' := 35) rfl rfl ?_
  refine pw_ald2 I E (c := 136) (pc' := 36) rfl rfl rfl (by decide) rfl (by decide) (by omega) (by omega) rfl (fun hf4a hf4b => ?_)
  refine pw_sub E (pc' := 37) rfl rfl ?_
  refine pw_istn E (pc' := 38) (ls' := [some (.ref 141), some (pw_i mo), some (pw_i ((pw_g h 136 (mo.toNat)) - (pw_g h 136 ((mo - 1).toNat)))), some (pw_i ((pw_g h 136 ((12 + mo).toNat)) - (pw_g h 136 (((12 + mo) - 1).toNat)))), none, none, none, none, none]) rfl rfl rfl rfl ?_
  refine pw_ld E (pc' := 39) (st' := [pw_i ((pw_g h 136 (mo.toNat)) - (pw_g h 136 ((mo - 1).toNat)))]) rfl (fun _ => rfl) ?_
  refine pw_ld E (pc' := 40) (st' := [pw_i ((pw_g h 136 ((12 + mo).toNat)) - (pw_g h 136 (((12 + mo) - 1).toNat))), pw_i ((pw_g h 136 (mo.toNat)) - (pw_g h 136 ((mo - 1).toNat)))]) rfl (fun _ => rfl) ?_
  refine pw_if2 E (pc' := 45) rfl (by decide) (by omega) (by omega) (by omega) (by omega) ?_ ?_
  · intro hc5
    change (pw_g h 136 (mo.toNat)) - (pw_g h 136 ((mo - 1).toNat)) ≠ (pw_g h 136 ((12 + mo).toNat)) - (pw_g h 136 (((12 + mo) - 1).toNat)) at hc5
    refine pw_ld E (pc' := 46) (st' := [pw_i ((pw_g h 136 (mo.toNat)) - (pw_g h 136 ((mo - 1).toNat)))]) rfl (fun _ => rfl) ?_
    refine pw_ld E (pc' := 47) (st' := [pw_i ((pw_g h 136 ((12 + mo).toNat)) - (pw_g h 136 (((12 + mo) - 1).toNat))), pw_i ((pw_g h 136 (mo.toNat)) - (pw_g h 136 ((mo - 1).toNat)))]) rfl (fun _ => rfl) ?_
    refine pw_if2 E (pc' := 54) rfl (by decide) (by omega) (by omega) (by omega) (by omega) ?_ ?_
    · intro hc6
      change (pw_g h 136 (mo.toNat)) - (pw_g h 136 ((mo - 1).toNat)) ≤ (pw_g h 136 ((12 + mo).toNat)) - (pw_g h 136 (((12 + mo) - 1).toNat)) at hc6
      refine pw_ld E (pc' := 55) (st' := [pw_i 1]) rfl (fun _ => rfl) ?_
      refine pw_ist E (pc' := 57) (ls' := [some (.ref 141), some (pw_i mo), some (pw_i ((pw_g h 136 (mo.toNat)) - (pw_g h 136 ((mo - 1).toNat)))), some (pw_i ((pw_g h 136 ((12 + mo).toNat)) - (pw_g h 136 (((12 + mo) - 1).toNat)))), some (pw_i 1), none, none, none, none]) rfl rfl rfl rfl ?_
      refine pw_ld E (pc' := 58) (st' := [pw_i 0]) rfl (fun _ => rfl) ?_
      refine pw_ist E (pc' := 60) (ls' := [some (.ref 141), some (pw_i mo), some (pw_i ((pw_g h 136 (mo.toNat)) - (pw_g h 136 ((mo - 1).toNat)))), some (pw_i ((pw_g h 136 ((12 + mo).toNat)) - (pw_g h 136 (((12 + mo) - 1).toNat)))), some (pw_i 1), some (pw_i 0), none, none, none]) rfl rfl rfl rfl ?_
      refine pw_ld E (pc' := 61) (st' := [pw_i 0]) rfl (fun _ => rfl) ?_
      refine pw_ist E (pc' := 63) (ls' := [some (.ref 141), some (pw_i mo), some (pw_i ((pw_g h 136 (mo.toNat)) - (pw_g h 136 ((mo - 1).toNat)))), some (pw_i ((pw_g h 136 ((12 + mo).toNat)) - (pw_g h 136 (((12 + mo) - 1).toNat)))), some (pw_i 1), some (pw_i 0), some (pw_i 0), none, none]) rfl rfl rfl rfl ?_
      refine pw_ld E (pc' := 64) (st' := [pw_i 0]) rfl (fun _ => rfl) ?_
      refine pw_ist E (pc' := 66) (ls' := [some (.ref 141), some (pw_i mo), some (pw_i ((pw_g h 136 (mo.toNat)) - (pw_g h 136 ((mo - 1).toNat)))), some (pw_i ((pw_g h 136 ((12 + mo).toNat)) - (pw_g h 136 (((12 + mo) - 1).toNat)))), some (pw_i 1), some (pw_i 0), some (pw_i 0), some (pw_i 0), none]) rfl rfl rfl rfl ?_
      have L66 : ∀ (n66 : Nat) (k66_5 : Int) (k66_6 : Int) (k66_7 : Int) (k66_8 : Option Value), (-2147483648) ≤ k66_5 → k66_5 ≤ 2147483647 → (-2147483648) ≤ k66_6 → k66_6 ≤ 2147483647 → 0 ≤ k66_7 → k66_7 ≤ 24 → (24 - k66_7).toNat = n66 → pw X d h 305 66 [some (.ref 141), some (pw_i mo), some (pw_i ((pw_g h 136 (mo.toNat)) - (pw_g h 136 ((mo - 1).toNat)))), some (pw_i ((pw_g h 136 ((12 + mo).toNat)) - (pw_g h 136 (((12 + mo) - 1).toNat)))), some (pw_i 1), some (pw_i k66_5), some (pw_i k66_6), some (pw_i k66_7), k66_8] [] (fun h' v => h = h' ∧ ∃ a : Int, v = .inl (some (pw_i a)) ∧ (-2147483648) ≤ a ∧ a ≤ 2147483647) := by
        intro n66
        induction n66 using Nat.strongRecOn with
        | ind n66 ih66 =>
          intro k66_5 k66_6 k66_7 k66_8 k66_5a k66_5b k66_6a k66_6b k66_7a k66_7b hm66
          refine pw_ld E (pc' := 68) (st' := [pw_i k66_7]) rfl (fun _ => rfl) ?_
          refine pw_bip E (pc' := 70) rfl rfl (by decide) ?_
          refine pw_if2 E (pc' := 167) rfl (by decide) (by omega) (by omega) (by decide) (by decide) ?_ ?_
          · intro hc7
            change (24 : Int) ≤ k66_7 at hc7
            refine pw_ld E (pc' := 169) (st' := [pw_i k66_5]) rfl (fun _ => rfl) ?_
            refine pw_ld E (pc' := 171) (st' := [pw_i k66_6, pw_i k66_5]) rfl (fun _ => rfl) ?_
            refine pw_mul E (pc' := 172) rfl rfl ?_
            refine pw_nm (fun x8 hx8a hx8b => ?_)
            refine pw_iret E rfl ?_
            exact ⟨rfl, ⟨_, rfl, by omega, by omega⟩⟩
          · intro hc9
            change ¬ ((24 : Int) ≤ k66_7) at hc9
            refine pw_ld E (pc' := 74) (st' := [.ref 141]) rfl (fun _ => rfl) ?_
            refine pw_ld E (pc' := 76) (st' := [pw_i k66_7, .ref 141]) rfl (fun _ => rfl) ?_
            refine pw_ld E (pc' := 77) (st' := [pw_i mo, pw_i k66_7, .ref 141]) rfl (fun _ => rfl) ?_
            refine pw_ld E (pc' := 78) (st' := [pw_i 1, pw_i mo, pw_i k66_7, .ref 141]) rfl (fun _ => rfl) ?_
            refine pw_sub E (pc' := 79) rfl rfl ?_
            refine pw_ld E (pc' := 80) (st' := [pw_i mo, pw_i (mo - 1), pw_i k66_7, .ref 141]) rfl (fun _ => rfl) ?_
            obtain ⟨f10l, f10h, -⟩ := pw_obj (c := 125) I rfl
            refine pw_call (m' := 214) (As := [.ref 141, pw_i k66_7, pw_i (mo - 1), pw_i mo]) (rest := []) (ls'' := [some (.ref 141), some (pw_i k66_7), some (pw_i (mo - 1)), some (pw_i mo)]) (Nat.le_trans (by decide) hd) E rfl (fun _ => pw_iV rfl rfl rfl rfl (pw_cellI f10h rfl)) (rfl : pm_ent 214 = some (4, 4, 12, 1, pmc_214)) rfl rfl (cm_214 (pw_dp hd (by decide)) I (k66_7) (by omega) (by omega) (mo - 1) (by omega) (by omega) (mo) (by omega) (by omega)) ?_
            rintro u12 v11 ⟨rfl, x13, rfl, hx13a, hx13b⟩
            refine ⟨_, rfl, ?_⟩
            show pw X d h 305 83 [some (.ref 141), some (pw_i mo), some (pw_i ((pw_g h 136 (mo.toNat)) - (pw_g h 136 ((mo - 1).toNat)))), some (pw_i ((pw_g h 136 ((12 + mo).toNat)) - (pw_g h 136 (((12 + mo) - 1).toNat)))), some (pw_i 1), some (pw_i k66_5), some (pw_i k66_6), some (pw_i k66_7), k66_8] [pw_i x13] _
            refine pw_ist E (pc' := 85) (ls' := [some (.ref 141), some (pw_i mo), some (pw_i ((pw_g h 136 (mo.toNat)) - (pw_g h 136 ((mo - 1).toNat)))), some (pw_i ((pw_g h 136 ((12 + mo).toNat)) - (pw_g h 136 (((12 + mo) - 1).toNat)))), some (pw_i 1), some (pw_i k66_5), some (pw_i k66_6), some (pw_i k66_7), some (pw_i x13)]) rfl rfl rfl rfl ?_
            refine pw_ld E (pc' := 87) (st' := [pw_i k66_5]) rfl (fun _ => rfl) ?_
            refine pw_ld E (pc' := 89) (st' := [pw_i x13, pw_i k66_5]) rfl (fun _ => rfl) ?_
            refine pw_if E (pc' := 130) rfl (by decide) (by omega) (by omega) ?_ ?_
            · intro hc14
              change x13 = (0 : Int) at hc14
              refine pw_ld E (pc' := 131) (st' := [pw_i 0, pw_i k66_5]) rfl (fun _ => rfl) ?_
              refine pw_add E (pc' := 132) rfl rfl ?_
              refine pw_ist E (pc' := 134) (ls' := [some (.ref 141), some (pw_i mo), some (pw_i ((pw_g h 136 (mo.toNat)) - (pw_g h 136 ((mo - 1).toNat)))), some (pw_i ((pw_g h 136 ((12 + mo).toNat)) - (pw_g h 136 (((12 + mo) - 1).toNat)))), some (pw_i 1), some (pw_i (k66_5 + 0)), some (pw_i k66_6), some (pw_i k66_7), some (pw_i x13)]) rfl rfl rfl rfl ?_
              refine pw_ld E (pc' := 136) (st' := [pw_i k66_6]) rfl (fun _ => rfl) ?_
              refine pw_ld E (pc' := 138) (st' := [pw_i x13, pw_i k66_6]) rfl (fun _ => rfl) ?_
              refine pw_if E (pc' := 157) rfl (by decide) (by omega) (by omega) ?_ ?_
              · intro hc15
                change x13 = (0 : Int) at hc15
                refine pw_ld E (pc' := 158) (st' := [pw_i 0, pw_i k66_6]) rfl (fun _ => rfl) ?_
                refine pw_add E (pc' := 159) rfl rfl ?_
                refine pw_ist E (pc' := 161) (ls' := [some (.ref 141), some (pw_i mo), some (pw_i ((pw_g h 136 (mo.toNat)) - (pw_g h 136 ((mo - 1).toNat)))), some (pw_i ((pw_g h 136 ((12 + mo).toNat)) - (pw_g h 136 (((12 + mo) - 1).toNat)))), some (pw_i 1), some (pw_i (k66_5 + 0)), some (pw_i (k66_6 + 0)), some (pw_i k66_7), some (pw_i x13)]) rfl rfl rfl rfl ?_
                refine pw_inc E (pc' := 164) (ls' := [some (.ref 141), some (pw_i mo), some (pw_i ((pw_g h 136 (mo.toNat)) - (pw_g h 136 ((mo - 1).toNat)))), some (pw_i ((pw_g h 136 ((12 + mo).toNat)) - (pw_g h 136 (((12 + mo) - 1).toNat)))), some (pw_i 1), some (pw_i (k66_5 + 0)), some (pw_i (k66_6 + 0)), some (pw_i (k66_7 + 1)), some (pw_i x13)]) rfl rfl rfl rfl ?_
                refine pw_goto E (pc' := 66) rfl (by decide) ?_
                exact ih66 _ (by omega) (k66_5 + 0) (k66_6 + 0) (k66_7 + 1) (some (pw_i x13))  (by omega) (by omega) (by omega) (by omega) (by omega) (by omega)  rfl
              · intro hc16
                change ¬ (x13 = (0 : Int)) at hc16
                exfalso; omega
            · intro hc17
              change ¬ (x13 = (0 : Int)) at hc17
              refine pw_ld E (pc' := 93) (st' := [.ref 141, pw_i k66_5]) rfl (fun _ => rfl) ?_
              refine pw_getR (b := 148) I E (c := 125) (k := 11) (pc' := 96) rfl rfl rfl rfl rfl rfl rfl ?_
              refine pw_ld E (pc' := 98) (st' := [pw_i k66_7, .ref 148, pw_i k66_5]) rfl (fun _ => rfl) ?_
              refine pw_ald2 I E (c := 132) (pc' := 99) rfl rfl rfl (by decide) rfl (by decide) (by omega) (by omega) rfl (fun hf18a hf18b => ?_)
              refine pw_ld E (pc' := 101) (st' := [pw_i 1, pw_i (pw_g h 132 (k66_7.toNat)), pw_i k66_5]) rfl (fun _ => rfl) ?_
              refine pw_if2 E (pc' := 130) rfl (by decide) (by omega) (by omega) (by decide) (by decide) ?_ ?_
              · intro hc19
                change pw_g h 132 (k66_7.toNat) ≠ (1 : Int) at hc19
                refine pw_ld E (pc' := 131) (st' := [pw_i 0, pw_i k66_5]) rfl (fun _ => rfl) ?_
                refine pw_add E (pc' := 132) rfl rfl ?_
                refine pw_ist E (pc' := 134) (ls' := [some (.ref 141), some (pw_i mo), some (pw_i ((pw_g h 136 (mo.toNat)) - (pw_g h 136 ((mo - 1).toNat)))), some (pw_i ((pw_g h 136 ((12 + mo).toNat)) - (pw_g h 136 (((12 + mo) - 1).toNat)))), some (pw_i 1), some (pw_i (k66_5 + 0)), some (pw_i k66_6), some (pw_i k66_7), some (pw_i x13)]) rfl rfl rfl rfl ?_
                refine pw_ld E (pc' := 136) (st' := [pw_i k66_6]) rfl (fun _ => rfl) ?_
                refine pw_ld E (pc' := 138) (st' := [pw_i x13, pw_i k66_6]) rfl (fun _ => rfl) ?_
                refine pw_if E (pc' := 157) rfl (by decide) (by omega) (by omega) ?_ ?_
                · intro hc20
                  change x13 = (0 : Int) at hc20
                  exfalso; omega
                · intro hc21
                  change ¬ (x13 = (0 : Int)) at hc21
                  refine pw_ld E (pc' := 142) (st' := [.ref 141, pw_i k66_6]) rfl (fun _ => rfl) ?_
                  refine pw_getR (b := 148) I E (c := 125) (k := 11) (pc' := 145) rfl rfl rfl rfl rfl rfl rfl ?_
                  refine pw_ld E (pc' := 147) (st' := [pw_i k66_7, .ref 148, pw_i k66_6]) rfl (fun _ => rfl) ?_
                  refine pw_ald2 I E (c := 132) (pc' := 148) rfl rfl rfl (by decide) rfl (by decide) (by omega) (by omega) rfl (fun hf22a hf22b => ?_)
                  refine pw_ld E (pc' := 150) (st' := [pw_i 1, pw_i (pw_g h 132 (k66_7.toNat)), pw_i k66_6]) rfl (fun _ => rfl) ?_
                  refine pw_if2 E (pc' := 157) rfl (by decide) (by omega) (by omega) (by decide) (by decide) ?_ ?_
                  · intro hc23
                    change pw_g h 132 (k66_7.toNat) = (1 : Int) at hc23
                    exfalso; omega
                  · intro hc24
                    change ¬ (pw_g h 132 (k66_7.toNat) = (1 : Int)) at hc24
                    refine pw_ld E (pc' := 154) (st' := [pw_i 1, pw_i k66_6]) rfl (fun _ => rfl) ?_
                    refine pw_goto E (pc' := 158) rfl (by decide) ?_
                    refine pw_add E (pc' := 159) rfl rfl ?_
                    refine pw_nm (fun x25 hx25a hx25b => ?_)
                    refine pw_ist E (pc' := 161) (ls' := [some (.ref 141), some (pw_i mo), some (pw_i ((pw_g h 136 (mo.toNat)) - (pw_g h 136 ((mo - 1).toNat)))), some (pw_i ((pw_g h 136 ((12 + mo).toNat)) - (pw_g h 136 (((12 + mo) - 1).toNat)))), some (pw_i 1), some (pw_i (k66_5 + 0)), some (pw_i x25), some (pw_i k66_7), some (pw_i x13)]) rfl rfl rfl rfl ?_
                    refine pw_inc E (pc' := 164) (ls' := [some (.ref 141), some (pw_i mo), some (pw_i ((pw_g h 136 (mo.toNat)) - (pw_g h 136 ((mo - 1).toNat)))), some (pw_i ((pw_g h 136 ((12 + mo).toNat)) - (pw_g h 136 (((12 + mo) - 1).toNat)))), some (pw_i 1), some (pw_i (k66_5 + 0)), some (pw_i x25), some (pw_i (k66_7 + 1)), some (pw_i x13)]) rfl rfl rfl rfl ?_
                    refine pw_goto E (pc' := 66) rfl (by decide) ?_
                    exact ih66 _ (by omega) (k66_5 + 0) (x25) (k66_7 + 1) (some (pw_i x13))  (by omega) (by omega) (by omega) (by omega) (by omega) (by omega)  rfl
              · intro hc26
                change ¬ (pw_g h 132 (k66_7.toNat) ≠ (1 : Int)) at hc26
                refine pw_ld E (pc' := 105) (st' := [.ref 141, pw_i k66_5]) rfl (fun _ => rfl) ?_
                refine pw_getR (b := 149) I E (c := 125) (k := 12) (pc' := 108) rfl rfl rfl rfl rfl rfl rfl ?_
                refine pw_ld E (pc' := 110) (st' := [pw_i k66_7, .ref 149, pw_i k66_5]) rfl (fun _ => rfl) ?_
                refine pw_ald2 I E (c := 133) (pc' := 111) rfl rfl rfl (by decide) rfl (by decide) (by omega) (by omega) rfl (fun hf27a hf27b => ?_)
                refine pw_ld E (pc' := 112) (st' := [.ref 141, pw_i (pw_g h 133 (k66_7.toNat)), pw_i k66_5]) rfl (fun _ => rfl) ?_
                refine pw_getR (b := 152) I E (c := 125) (k := 16) (pc' := 115) rfl rfl rfl rfl rfl rfl rfl ?_
                refine pw_bip E (pc' := 117) rfl rfl (by decide) ?_
                refine pw_ld E (pc' := 119) (st' := [pw_i 1, pw_i 12, .ref 152, pw_i (pw_g h 133 (k66_7.toNat)), pw_i k66_5]) rfl (fun _ => rfl) ?_
                refine pw_mul E (pc' := 120) rfl rfl ?_
                refine pw_ld E (pc' := 121) (st' := [pw_i mo, pw_i (12 * 1), .ref 152, pw_i (pw_g h 133 (k66_7.toNat)), pw_i k66_5]) rfl (fun _ => rfl) ?_
                refine pw_add E (pc' := 122) rfl rfl ?_
                refine pw_ald2 I E (c := 136) (pc' := 123) rfl rfl rfl (by decide) rfl (by decide) (by omega) (by omega) rfl (fun hf28a hf28b => ?_)
                refine pw_if2 E (pc' := 130) rfl (by decide) (by omega) (by omega) (by omega) (by omega) ?_ ?_
                · intro hc29
                  change pw_g h 136 (((12 * 1) + mo).toNat) ≤ pw_g h 133 (k66_7.toNat) at hc29
                  refine pw_ld E (pc' := 131) (st' := [pw_i 0, pw_i k66_5]) rfl (fun _ => rfl) ?_
                  refine pw_add E (pc' := 132) rfl rfl ?_
                  refine pw_ist E (pc' := 134) (ls' := [some (.ref 141), some (pw_i mo), some (pw_i ((pw_g h 136 (mo.toNat)) - (pw_g h 136 ((mo - 1).toNat)))), some (pw_i ((pw_g h 136 ((12 + mo).toNat)) - (pw_g h 136 (((12 + mo) - 1).toNat)))), some (pw_i 1), some (pw_i (k66_5 + 0)), some (pw_i k66_6), some (pw_i k66_7), some (pw_i x13)]) rfl rfl rfl rfl ?_
                  refine pw_ld E (pc' := 136) (st' := [pw_i k66_6]) rfl (fun _ => rfl) ?_
                  refine pw_ld E (pc' := 138) (st' := [pw_i x13, pw_i k66_6]) rfl (fun _ => rfl) ?_
                  refine pw_if E (pc' := 157) rfl (by decide) (by omega) (by omega) ?_ ?_
                  · intro hc30
                    change x13 = (0 : Int) at hc30
                    exfalso; omega
                  · intro hc31
                    change ¬ (x13 = (0 : Int)) at hc31
                    refine pw_ld E (pc' := 142) (st' := [.ref 141, pw_i k66_6]) rfl (fun _ => rfl) ?_
                    refine pw_getR (b := 148) I E (c := 125) (k := 11) (pc' := 145) rfl rfl rfl rfl rfl rfl rfl ?_
                    refine pw_ld E (pc' := 147) (st' := [pw_i k66_7, .ref 148, pw_i k66_6]) rfl (fun _ => rfl) ?_
                    refine pw_ald2 I E (c := 132) (pc' := 148) rfl rfl rfl (by decide) rfl (by decide) (by omega) (by omega) rfl (fun hf32a hf32b => ?_)
                    refine pw_ld E (pc' := 150) (st' := [pw_i 1, pw_i (pw_g h 132 (k66_7.toNat)), pw_i k66_6]) rfl (fun _ => rfl) ?_
                    refine pw_if2 E (pc' := 157) rfl (by decide) (by omega) (by omega) (by decide) (by decide) ?_ ?_
                    · intro hc33
                      change pw_g h 132 (k66_7.toNat) = (1 : Int) at hc33
                      refine pw_ld E (pc' := 158) (st' := [pw_i 0, pw_i k66_6]) rfl (fun _ => rfl) ?_
                      refine pw_add E (pc' := 159) rfl rfl ?_
                      refine pw_ist E (pc' := 161) (ls' := [some (.ref 141), some (pw_i mo), some (pw_i ((pw_g h 136 (mo.toNat)) - (pw_g h 136 ((mo - 1).toNat)))), some (pw_i ((pw_g h 136 ((12 + mo).toNat)) - (pw_g h 136 (((12 + mo) - 1).toNat)))), some (pw_i 1), some (pw_i (k66_5 + 0)), some (pw_i (k66_6 + 0)), some (pw_i k66_7), some (pw_i x13)]) rfl rfl rfl rfl ?_
                      refine pw_inc E (pc' := 164) (ls' := [some (.ref 141), some (pw_i mo), some (pw_i ((pw_g h 136 (mo.toNat)) - (pw_g h 136 ((mo - 1).toNat)))), some (pw_i ((pw_g h 136 ((12 + mo).toNat)) - (pw_g h 136 (((12 + mo) - 1).toNat)))), some (pw_i 1), some (pw_i (k66_5 + 0)), some (pw_i (k66_6 + 0)), some (pw_i (k66_7 + 1)), some (pw_i x13)]) rfl rfl rfl rfl ?_
                      refine pw_goto E (pc' := 66) rfl (by decide) ?_
                      exact ih66 _ (by omega) (k66_5 + 0) (k66_6 + 0) (k66_7 + 1) (some (pw_i x13))  (by omega) (by omega) (by omega) (by omega) (by omega) (by omega)  rfl
                    · intro hc34
                      change ¬ (pw_g h 132 (k66_7.toNat) = (1 : Int)) at hc34
                      exfalso; omega
                · intro hc35
                  change ¬ (pw_g h 136 (((12 * 1) + mo).toNat) ≤ pw_g h 133 (k66_7.toNat)) at hc35
                  refine pw_ld E (pc' := 127) (st' := [pw_i 1, pw_i k66_5]) rfl (fun _ => rfl) ?_
                  refine pw_goto E (pc' := 131) rfl (by decide) ?_
                  refine pw_add E (pc' := 132) rfl rfl ?_
                  refine pw_nm (fun x36 hx36a hx36b => ?_)
                  refine pw_ist E (pc' := 134) (ls' := [some (.ref 141), some (pw_i mo), some (pw_i ((pw_g h 136 (mo.toNat)) - (pw_g h 136 ((mo - 1).toNat)))), some (pw_i ((pw_g h 136 ((12 + mo).toNat)) - (pw_g h 136 (((12 + mo) - 1).toNat)))), some (pw_i 1), some (pw_i x36), some (pw_i k66_6), some (pw_i k66_7), some (pw_i x13)]) rfl rfl rfl rfl ?_
                  refine pw_ld E (pc' := 136) (st' := [pw_i k66_6]) rfl (fun _ => rfl) ?_
                  refine pw_ld E (pc' := 138) (st' := [pw_i x13, pw_i k66_6]) rfl (fun _ => rfl) ?_
                  refine pw_if E (pc' := 157) rfl (by decide) (by omega) (by omega) ?_ ?_
                  · intro hc37
                    change x13 = (0 : Int) at hc37
                    exfalso; omega
                  · intro hc38
                    change ¬ (x13 = (0 : Int)) at hc38
                    refine pw_ld E (pc' := 142) (st' := [.ref 141, pw_i k66_6]) rfl (fun _ => rfl) ?_
                    refine pw_getR (b := 148) I E (c := 125) (k := 11) (pc' := 145) rfl rfl rfl rfl rfl rfl rfl ?_
                    refine pw_ld E (pc' := 147) (st' := [pw_i k66_7, .ref 148, pw_i k66_6]) rfl (fun _ => rfl) ?_
                    refine pw_ald2 I E (c := 132) (pc' := 148) rfl rfl rfl (by decide) rfl (by decide) (by omega) (by omega) rfl (fun hf39a hf39b => ?_)
                    refine pw_ld E (pc' := 150) (st' := [pw_i 1, pw_i (pw_g h 132 (k66_7.toNat)), pw_i k66_6]) rfl (fun _ => rfl) ?_
                    refine pw_if2 E (pc' := 157) rfl (by decide) (by omega) (by omega) (by decide) (by decide) ?_ ?_
                    · intro hc40
                      change pw_g h 132 (k66_7.toNat) = (1 : Int) at hc40
                      refine pw_ld E (pc' := 158) (st' := [pw_i 0, pw_i k66_6]) rfl (fun _ => rfl) ?_
                      refine pw_add E (pc' := 159) rfl rfl ?_
                      refine pw_ist E (pc' := 161) (ls' := [some (.ref 141), some (pw_i mo), some (pw_i ((pw_g h 136 (mo.toNat)) - (pw_g h 136 ((mo - 1).toNat)))), some (pw_i ((pw_g h 136 ((12 + mo).toNat)) - (pw_g h 136 (((12 + mo) - 1).toNat)))), some (pw_i 1), some (pw_i x36), some (pw_i (k66_6 + 0)), some (pw_i k66_7), some (pw_i x13)]) rfl rfl rfl rfl ?_
                      refine pw_inc E (pc' := 164) (ls' := [some (.ref 141), some (pw_i mo), some (pw_i ((pw_g h 136 (mo.toNat)) - (pw_g h 136 ((mo - 1).toNat)))), some (pw_i ((pw_g h 136 ((12 + mo).toNat)) - (pw_g h 136 (((12 + mo) - 1).toNat)))), some (pw_i 1), some (pw_i x36), some (pw_i (k66_6 + 0)), some (pw_i (k66_7 + 1)), some (pw_i x13)]) rfl rfl rfl rfl ?_
                      refine pw_goto E (pc' := 66) rfl (by decide) ?_
                      exact ih66 _ (by omega) (x36) (k66_6 + 0) (k66_7 + 1) (some (pw_i x13))  (by omega) (by omega) (by omega) (by omega) (by omega) (by omega)  rfl
                    · intro hc41
                      change ¬ (pw_g h 132 (k66_7.toNat) = (1 : Int)) at hc41
                      exfalso; omega
      exact L66 _ (0) (0) (0) (none)  (by omega) (by omega) (by omega) (by omega) (by omega) (by omega)  rfl
    · intro hc42
      change ¬ ((pw_g h 136 (mo.toNat)) - (pw_g h 136 ((mo - 1).toNat)) ≤ (pw_g h 136 ((12 + mo).toNat)) - (pw_g h 136 (((12 + mo) - 1).toNat))) at hc42
      refine pw_ld E (pc' := 51) (st' := [pw_i 0]) rfl (fun _ => rfl) ?_
      refine pw_goto E (pc' := 55) rfl (by decide) ?_
      refine pw_ist E (pc' := 57) (ls' := [some (.ref 141), some (pw_i mo), some (pw_i ((pw_g h 136 (mo.toNat)) - (pw_g h 136 ((mo - 1).toNat)))), some (pw_i ((pw_g h 136 ((12 + mo).toNat)) - (pw_g h 136 (((12 + mo) - 1).toNat)))), some (pw_i 0), none, none, none, none]) rfl rfl rfl rfl ?_
      refine pw_ld E (pc' := 58) (st' := [pw_i 0]) rfl (fun _ => rfl) ?_
      refine pw_ist E (pc' := 60) (ls' := [some (.ref 141), some (pw_i mo), some (pw_i ((pw_g h 136 (mo.toNat)) - (pw_g h 136 ((mo - 1).toNat)))), some (pw_i ((pw_g h 136 ((12 + mo).toNat)) - (pw_g h 136 (((12 + mo) - 1).toNat)))), some (pw_i 0), some (pw_i 0), none, none, none]) rfl rfl rfl rfl ?_
      refine pw_ld E (pc' := 61) (st' := [pw_i 0]) rfl (fun _ => rfl) ?_
      refine pw_ist E (pc' := 63) (ls' := [some (.ref 141), some (pw_i mo), some (pw_i ((pw_g h 136 (mo.toNat)) - (pw_g h 136 ((mo - 1).toNat)))), some (pw_i ((pw_g h 136 ((12 + mo).toNat)) - (pw_g h 136 (((12 + mo) - 1).toNat)))), some (pw_i 0), some (pw_i 0), some (pw_i 0), none, none]) rfl rfl rfl rfl ?_
      refine pw_ld E (pc' := 64) (st' := [pw_i 0]) rfl (fun _ => rfl) ?_
      refine pw_ist E (pc' := 66) (ls' := [some (.ref 141), some (pw_i mo), some (pw_i ((pw_g h 136 (mo.toNat)) - (pw_g h 136 ((mo - 1).toNat)))), some (pw_i ((pw_g h 136 ((12 + mo).toNat)) - (pw_g h 136 (((12 + mo) - 1).toNat)))), some (pw_i 0), some (pw_i 0), some (pw_i 0), some (pw_i 0), none]) rfl rfl rfl rfl ?_
      have L66 : ∀ (n66 : Nat) (k66_5 : Int) (k66_6 : Int) (k66_7 : Int) (k66_8 : Option Value), (-2147483648) ≤ k66_5 → k66_5 ≤ 2147483647 → (-2147483648) ≤ k66_6 → k66_6 ≤ 2147483647 → 0 ≤ k66_7 → k66_7 ≤ 24 → (24 - k66_7).toNat = n66 → pw X d h 305 66 [some (.ref 141), some (pw_i mo), some (pw_i ((pw_g h 136 (mo.toNat)) - (pw_g h 136 ((mo - 1).toNat)))), some (pw_i ((pw_g h 136 ((12 + mo).toNat)) - (pw_g h 136 (((12 + mo) - 1).toNat)))), some (pw_i 0), some (pw_i k66_5), some (pw_i k66_6), some (pw_i k66_7), k66_8] [] (fun h' v => h = h' ∧ ∃ a : Int, v = .inl (some (pw_i a)) ∧ (-2147483648) ≤ a ∧ a ≤ 2147483647) := by
        intro n66
        induction n66 using Nat.strongRecOn with
        | ind n66 ih66 =>
          intro k66_5 k66_6 k66_7 k66_8 k66_5a k66_5b k66_6a k66_6b k66_7a k66_7b hm66
          refine pw_ld E (pc' := 68) (st' := [pw_i k66_7]) rfl (fun _ => rfl) ?_
          refine pw_bip E (pc' := 70) rfl rfl (by decide) ?_
          refine pw_if2 E (pc' := 167) rfl (by decide) (by omega) (by omega) (by decide) (by decide) ?_ ?_
          · intro hc43
            change (24 : Int) ≤ k66_7 at hc43
            refine pw_ld E (pc' := 169) (st' := [pw_i k66_5]) rfl (fun _ => rfl) ?_
            refine pw_ld E (pc' := 171) (st' := [pw_i k66_6, pw_i k66_5]) rfl (fun _ => rfl) ?_
            refine pw_mul E (pc' := 172) rfl rfl ?_
            refine pw_nm (fun x44 hx44a hx44b => ?_)
            refine pw_iret E rfl ?_
            exact ⟨rfl, ⟨_, rfl, by omega, by omega⟩⟩
          · intro hc45
            change ¬ ((24 : Int) ≤ k66_7) at hc45
            refine pw_ld E (pc' := 74) (st' := [.ref 141]) rfl (fun _ => rfl) ?_
            refine pw_ld E (pc' := 76) (st' := [pw_i k66_7, .ref 141]) rfl (fun _ => rfl) ?_
            refine pw_ld E (pc' := 77) (st' := [pw_i mo, pw_i k66_7, .ref 141]) rfl (fun _ => rfl) ?_
            refine pw_ld E (pc' := 78) (st' := [pw_i 1, pw_i mo, pw_i k66_7, .ref 141]) rfl (fun _ => rfl) ?_
            refine pw_sub E (pc' := 79) rfl rfl ?_
            refine pw_ld E (pc' := 80) (st' := [pw_i mo, pw_i (mo - 1), pw_i k66_7, .ref 141]) rfl (fun _ => rfl) ?_
            obtain ⟨f46l, f46h, -⟩ := pw_obj (c := 125) I rfl
            refine pw_call (m' := 214) (As := [.ref 141, pw_i k66_7, pw_i (mo - 1), pw_i mo]) (rest := []) (ls'' := [some (.ref 141), some (pw_i k66_7), some (pw_i (mo - 1)), some (pw_i mo)]) (Nat.le_trans (by decide) hd) E rfl (fun _ => pw_iV rfl rfl rfl rfl (pw_cellI f46h rfl)) (rfl : pm_ent 214 = some (4, 4, 12, 1, pmc_214)) rfl rfl (cm_214 (pw_dp hd (by decide)) I (k66_7) (by omega) (by omega) (mo - 1) (by omega) (by omega) (mo) (by omega) (by omega)) ?_
            rintro u48 v47 ⟨rfl, x49, rfl, hx49a, hx49b⟩
            refine ⟨_, rfl, ?_⟩
            show pw X d h 305 83 [some (.ref 141), some (pw_i mo), some (pw_i ((pw_g h 136 (mo.toNat)) - (pw_g h 136 ((mo - 1).toNat)))), some (pw_i ((pw_g h 136 ((12 + mo).toNat)) - (pw_g h 136 (((12 + mo) - 1).toNat)))), some (pw_i 0), some (pw_i k66_5), some (pw_i k66_6), some (pw_i k66_7), k66_8] [pw_i x49] _
            refine pw_ist E (pc' := 85) (ls' := [some (.ref 141), some (pw_i mo), some (pw_i ((pw_g h 136 (mo.toNat)) - (pw_g h 136 ((mo - 1).toNat)))), some (pw_i ((pw_g h 136 ((12 + mo).toNat)) - (pw_g h 136 (((12 + mo) - 1).toNat)))), some (pw_i 0), some (pw_i k66_5), some (pw_i k66_6), some (pw_i k66_7), some (pw_i x49)]) rfl rfl rfl rfl ?_
            refine pw_ld E (pc' := 87) (st' := [pw_i k66_5]) rfl (fun _ => rfl) ?_
            refine pw_ld E (pc' := 89) (st' := [pw_i x49, pw_i k66_5]) rfl (fun _ => rfl) ?_
            refine pw_if E (pc' := 130) rfl (by decide) (by omega) (by omega) ?_ ?_
            · intro hc50
              change x49 = (0 : Int) at hc50
              refine pw_ld E (pc' := 131) (st' := [pw_i 0, pw_i k66_5]) rfl (fun _ => rfl) ?_
              refine pw_add E (pc' := 132) rfl rfl ?_
              refine pw_ist E (pc' := 134) (ls' := [some (.ref 141), some (pw_i mo), some (pw_i ((pw_g h 136 (mo.toNat)) - (pw_g h 136 ((mo - 1).toNat)))), some (pw_i ((pw_g h 136 ((12 + mo).toNat)) - (pw_g h 136 (((12 + mo) - 1).toNat)))), some (pw_i 0), some (pw_i (k66_5 + 0)), some (pw_i k66_6), some (pw_i k66_7), some (pw_i x49)]) rfl rfl rfl rfl ?_
              refine pw_ld E (pc' := 136) (st' := [pw_i k66_6]) rfl (fun _ => rfl) ?_
              refine pw_ld E (pc' := 138) (st' := [pw_i x49, pw_i k66_6]) rfl (fun _ => rfl) ?_
              refine pw_if E (pc' := 157) rfl (by decide) (by omega) (by omega) ?_ ?_
              · intro hc51
                change x49 = (0 : Int) at hc51
                refine pw_ld E (pc' := 158) (st' := [pw_i 0, pw_i k66_6]) rfl (fun _ => rfl) ?_
                refine pw_add E (pc' := 159) rfl rfl ?_
                refine pw_ist E (pc' := 161) (ls' := [some (.ref 141), some (pw_i mo), some (pw_i ((pw_g h 136 (mo.toNat)) - (pw_g h 136 ((mo - 1).toNat)))), some (pw_i ((pw_g h 136 ((12 + mo).toNat)) - (pw_g h 136 (((12 + mo) - 1).toNat)))), some (pw_i 0), some (pw_i (k66_5 + 0)), some (pw_i (k66_6 + 0)), some (pw_i k66_7), some (pw_i x49)]) rfl rfl rfl rfl ?_
                refine pw_inc E (pc' := 164) (ls' := [some (.ref 141), some (pw_i mo), some (pw_i ((pw_g h 136 (mo.toNat)) - (pw_g h 136 ((mo - 1).toNat)))), some (pw_i ((pw_g h 136 ((12 + mo).toNat)) - (pw_g h 136 (((12 + mo) - 1).toNat)))), some (pw_i 0), some (pw_i (k66_5 + 0)), some (pw_i (k66_6 + 0)), some (pw_i (k66_7 + 1)), some (pw_i x49)]) rfl rfl rfl rfl ?_
                refine pw_goto E (pc' := 66) rfl (by decide) ?_
                exact ih66 _ (by omega) (k66_5 + 0) (k66_6 + 0) (k66_7 + 1) (some (pw_i x49))  (by omega) (by omega) (by omega) (by omega) (by omega) (by omega)  rfl
              · intro hc52
                change ¬ (x49 = (0 : Int)) at hc52
                exfalso; omega
            · intro hc53
              change ¬ (x49 = (0 : Int)) at hc53
              refine pw_ld E (pc' := 93) (st' := [.ref 141, pw_i k66_5]) rfl (fun _ => rfl) ?_
              refine pw_getR (b := 148) I E (c := 125) (k := 11) (pc' := 96) rfl rfl rfl rfl rfl rfl rfl ?_
              refine pw_ld E (pc' := 98) (st' := [pw_i k66_7, .ref 148, pw_i k66_5]) rfl (fun _ => rfl) ?_
              refine pw_ald2 I E (c := 132) (pc' := 99) rfl rfl rfl (by decide) rfl (by decide) (by omega) (by omega) rfl (fun hf54a hf54b => ?_)
              refine pw_ld E (pc' := 101) (st' := [pw_i 0, pw_i (pw_g h 132 (k66_7.toNat)), pw_i k66_5]) rfl (fun _ => rfl) ?_
              refine pw_if2 E (pc' := 130) rfl (by decide) (by omega) (by omega) (by decide) (by decide) ?_ ?_
              · intro hc55
                change pw_g h 132 (k66_7.toNat) ≠ (0 : Int) at hc55
                refine pw_ld E (pc' := 131) (st' := [pw_i 0, pw_i k66_5]) rfl (fun _ => rfl) ?_
                refine pw_add E (pc' := 132) rfl rfl ?_
                refine pw_ist E (pc' := 134) (ls' := [some (.ref 141), some (pw_i mo), some (pw_i ((pw_g h 136 (mo.toNat)) - (pw_g h 136 ((mo - 1).toNat)))), some (pw_i ((pw_g h 136 ((12 + mo).toNat)) - (pw_g h 136 (((12 + mo) - 1).toNat)))), some (pw_i 0), some (pw_i (k66_5 + 0)), some (pw_i k66_6), some (pw_i k66_7), some (pw_i x49)]) rfl rfl rfl rfl ?_
                refine pw_ld E (pc' := 136) (st' := [pw_i k66_6]) rfl (fun _ => rfl) ?_
                refine pw_ld E (pc' := 138) (st' := [pw_i x49, pw_i k66_6]) rfl (fun _ => rfl) ?_
                refine pw_if E (pc' := 157) rfl (by decide) (by omega) (by omega) ?_ ?_
                · intro hc56
                  change x49 = (0 : Int) at hc56
                  exfalso; omega
                · intro hc57
                  change ¬ (x49 = (0 : Int)) at hc57
                  refine pw_ld E (pc' := 142) (st' := [.ref 141, pw_i k66_6]) rfl (fun _ => rfl) ?_
                  refine pw_getR (b := 148) I E (c := 125) (k := 11) (pc' := 145) rfl rfl rfl rfl rfl rfl rfl ?_
                  refine pw_ld E (pc' := 147) (st' := [pw_i k66_7, .ref 148, pw_i k66_6]) rfl (fun _ => rfl) ?_
                  refine pw_ald2 I E (c := 132) (pc' := 148) rfl rfl rfl (by decide) rfl (by decide) (by omega) (by omega) rfl (fun hf58a hf58b => ?_)
                  refine pw_ld E (pc' := 150) (st' := [pw_i 0, pw_i (pw_g h 132 (k66_7.toNat)), pw_i k66_6]) rfl (fun _ => rfl) ?_
                  refine pw_if2 E (pc' := 157) rfl (by decide) (by omega) (by omega) (by decide) (by decide) ?_ ?_
                  · intro hc59
                    change pw_g h 132 (k66_7.toNat) = (0 : Int) at hc59
                    exfalso; omega
                  · intro hc60
                    change ¬ (pw_g h 132 (k66_7.toNat) = (0 : Int)) at hc60
                    refine pw_ld E (pc' := 154) (st' := [pw_i 1, pw_i k66_6]) rfl (fun _ => rfl) ?_
                    refine pw_goto E (pc' := 158) rfl (by decide) ?_
                    refine pw_add E (pc' := 159) rfl rfl ?_
                    refine pw_nm (fun x61 hx61a hx61b => ?_)
                    refine pw_ist E (pc' := 161) (ls' := [some (.ref 141), some (pw_i mo), some (pw_i ((pw_g h 136 (mo.toNat)) - (pw_g h 136 ((mo - 1).toNat)))), some (pw_i ((pw_g h 136 ((12 + mo).toNat)) - (pw_g h 136 (((12 + mo) - 1).toNat)))), some (pw_i 0), some (pw_i (k66_5 + 0)), some (pw_i x61), some (pw_i k66_7), some (pw_i x49)]) rfl rfl rfl rfl ?_
                    refine pw_inc E (pc' := 164) (ls' := [some (.ref 141), some (pw_i mo), some (pw_i ((pw_g h 136 (mo.toNat)) - (pw_g h 136 ((mo - 1).toNat)))), some (pw_i ((pw_g h 136 ((12 + mo).toNat)) - (pw_g h 136 (((12 + mo) - 1).toNat)))), some (pw_i 0), some (pw_i (k66_5 + 0)), some (pw_i x61), some (pw_i (k66_7 + 1)), some (pw_i x49)]) rfl rfl rfl rfl ?_
                    refine pw_goto E (pc' := 66) rfl (by decide) ?_
                    exact ih66 _ (by omega) (k66_5 + 0) (x61) (k66_7 + 1) (some (pw_i x49))  (by omega) (by omega) (by omega) (by omega) (by omega) (by omega)  rfl
              · intro hc62
                change ¬ (pw_g h 132 (k66_7.toNat) ≠ (0 : Int)) at hc62
                refine pw_ld E (pc' := 105) (st' := [.ref 141, pw_i k66_5]) rfl (fun _ => rfl) ?_
                refine pw_getR (b := 149) I E (c := 125) (k := 12) (pc' := 108) rfl rfl rfl rfl rfl rfl rfl ?_
                refine pw_ld E (pc' := 110) (st' := [pw_i k66_7, .ref 149, pw_i k66_5]) rfl (fun _ => rfl) ?_
                refine pw_ald2 I E (c := 133) (pc' := 111) rfl rfl rfl (by decide) rfl (by decide) (by omega) (by omega) rfl (fun hf63a hf63b => ?_)
                refine pw_ld E (pc' := 112) (st' := [.ref 141, pw_i (pw_g h 133 (k66_7.toNat)), pw_i k66_5]) rfl (fun _ => rfl) ?_
                refine pw_getR (b := 152) I E (c := 125) (k := 16) (pc' := 115) rfl rfl rfl rfl rfl rfl rfl ?_
                refine pw_bip E (pc' := 117) rfl rfl (by decide) ?_
                refine pw_ld E (pc' := 119) (st' := [pw_i 0, pw_i 12, .ref 152, pw_i (pw_g h 133 (k66_7.toNat)), pw_i k66_5]) rfl (fun _ => rfl) ?_
                refine pw_mul E (pc' := 120) rfl rfl ?_
                refine pw_ld E (pc' := 121) (st' := [pw_i mo, pw_i (12 * 0), .ref 152, pw_i (pw_g h 133 (k66_7.toNat)), pw_i k66_5]) rfl (fun _ => rfl) ?_
                refine pw_add E (pc' := 122) rfl rfl ?_
                refine pw_ald2 I E (c := 136) (pc' := 123) rfl rfl rfl (by decide) rfl (by decide) (by omega) (by omega) rfl (fun hf64a hf64b => ?_)
                refine pw_if2 E (pc' := 130) rfl (by decide) (by omega) (by omega) (by omega) (by omega) ?_ ?_
                · intro hc65
                  change pw_g h 136 (((12 * 0) + mo).toNat) ≤ pw_g h 133 (k66_7.toNat) at hc65
                  refine pw_ld E (pc' := 131) (st' := [pw_i 0, pw_i k66_5]) rfl (fun _ => rfl) ?_
                  refine pw_add E (pc' := 132) rfl rfl ?_
                  refine pw_ist E (pc' := 134) (ls' := [some (.ref 141), some (pw_i mo), some (pw_i ((pw_g h 136 (mo.toNat)) - (pw_g h 136 ((mo - 1).toNat)))), some (pw_i ((pw_g h 136 ((12 + mo).toNat)) - (pw_g h 136 (((12 + mo) - 1).toNat)))), some (pw_i 0), some (pw_i (k66_5 + 0)), some (pw_i k66_6), some (pw_i k66_7), some (pw_i x49)]) rfl rfl rfl rfl ?_
                  refine pw_ld E (pc' := 136) (st' := [pw_i k66_6]) rfl (fun _ => rfl) ?_
                  refine pw_ld E (pc' := 138) (st' := [pw_i x49, pw_i k66_6]) rfl (fun _ => rfl) ?_
                  refine pw_if E (pc' := 157) rfl (by decide) (by omega) (by omega) ?_ ?_
                  · intro hc66
                    change x49 = (0 : Int) at hc66
                    exfalso; omega
                  · intro hc67
                    change ¬ (x49 = (0 : Int)) at hc67
                    refine pw_ld E (pc' := 142) (st' := [.ref 141, pw_i k66_6]) rfl (fun _ => rfl) ?_
                    refine pw_getR (b := 148) I E (c := 125) (k := 11) (pc' := 145) rfl rfl rfl rfl rfl rfl rfl ?_
                    refine pw_ld E (pc' := 147) (st' := [pw_i k66_7, .ref 148, pw_i k66_6]) rfl (fun _ => rfl) ?_
                    refine pw_ald2 I E (c := 132) (pc' := 148) rfl rfl rfl (by decide) rfl (by decide) (by omega) (by omega) rfl (fun hf68a hf68b => ?_)
                    refine pw_ld E (pc' := 150) (st' := [pw_i 0, pw_i (pw_g h 132 (k66_7.toNat)), pw_i k66_6]) rfl (fun _ => rfl) ?_
                    refine pw_if2 E (pc' := 157) rfl (by decide) (by omega) (by omega) (by decide) (by decide) ?_ ?_
                    · intro hc69
                      change pw_g h 132 (k66_7.toNat) = (0 : Int) at hc69
                      refine pw_ld E (pc' := 158) (st' := [pw_i 0, pw_i k66_6]) rfl (fun _ => rfl) ?_
                      refine pw_add E (pc' := 159) rfl rfl ?_
                      refine pw_ist E (pc' := 161) (ls' := [some (.ref 141), some (pw_i mo), some (pw_i ((pw_g h 136 (mo.toNat)) - (pw_g h 136 ((mo - 1).toNat)))), some (pw_i ((pw_g h 136 ((12 + mo).toNat)) - (pw_g h 136 (((12 + mo) - 1).toNat)))), some (pw_i 0), some (pw_i (k66_5 + 0)), some (pw_i (k66_6 + 0)), some (pw_i k66_7), some (pw_i x49)]) rfl rfl rfl rfl ?_
                      refine pw_inc E (pc' := 164) (ls' := [some (.ref 141), some (pw_i mo), some (pw_i ((pw_g h 136 (mo.toNat)) - (pw_g h 136 ((mo - 1).toNat)))), some (pw_i ((pw_g h 136 ((12 + mo).toNat)) - (pw_g h 136 (((12 + mo) - 1).toNat)))), some (pw_i 0), some (pw_i (k66_5 + 0)), some (pw_i (k66_6 + 0)), some (pw_i (k66_7 + 1)), some (pw_i x49)]) rfl rfl rfl rfl ?_
                      refine pw_goto E (pc' := 66) rfl (by decide) ?_
                      exact ih66 _ (by omega) (k66_5 + 0) (k66_6 + 0) (k66_7 + 1) (some (pw_i x49))  (by omega) (by omega) (by omega) (by omega) (by omega) (by omega)  rfl
                    · intro hc70
                      change ¬ (pw_g h 132 (k66_7.toNat) = (0 : Int)) at hc70
                      exfalso; omega
                · intro hc71
                  change ¬ (pw_g h 136 (((12 * 0) + mo).toNat) ≤ pw_g h 133 (k66_7.toNat)) at hc71
                  refine pw_ld E (pc' := 127) (st' := [pw_i 1, pw_i k66_5]) rfl (fun _ => rfl) ?_
                  refine pw_goto E (pc' := 131) rfl (by decide) ?_
                  refine pw_add E (pc' := 132) rfl rfl ?_
                  refine pw_nm (fun x72 hx72a hx72b => ?_)
                  refine pw_ist E (pc' := 134) (ls' := [some (.ref 141), some (pw_i mo), some (pw_i ((pw_g h 136 (mo.toNat)) - (pw_g h 136 ((mo - 1).toNat)))), some (pw_i ((pw_g h 136 ((12 + mo).toNat)) - (pw_g h 136 (((12 + mo) - 1).toNat)))), some (pw_i 0), some (pw_i x72), some (pw_i k66_6), some (pw_i k66_7), some (pw_i x49)]) rfl rfl rfl rfl ?_
                  refine pw_ld E (pc' := 136) (st' := [pw_i k66_6]) rfl (fun _ => rfl) ?_
                  refine pw_ld E (pc' := 138) (st' := [pw_i x49, pw_i k66_6]) rfl (fun _ => rfl) ?_
                  refine pw_if E (pc' := 157) rfl (by decide) (by omega) (by omega) ?_ ?_
                  · intro hc73
                    change x49 = (0 : Int) at hc73
                    exfalso; omega
                  · intro hc74
                    change ¬ (x49 = (0 : Int)) at hc74
                    refine pw_ld E (pc' := 142) (st' := [.ref 141, pw_i k66_6]) rfl (fun _ => rfl) ?_
                    refine pw_getR (b := 148) I E (c := 125) (k := 11) (pc' := 145) rfl rfl rfl rfl rfl rfl rfl ?_
                    refine pw_ld E (pc' := 147) (st' := [pw_i k66_7, .ref 148, pw_i k66_6]) rfl (fun _ => rfl) ?_
                    refine pw_ald2 I E (c := 132) (pc' := 148) rfl rfl rfl (by decide) rfl (by decide) (by omega) (by omega) rfl (fun hf75a hf75b => ?_)
                    refine pw_ld E (pc' := 150) (st' := [pw_i 0, pw_i (pw_g h 132 (k66_7.toNat)), pw_i k66_6]) rfl (fun _ => rfl) ?_
                    refine pw_if2 E (pc' := 157) rfl (by decide) (by omega) (by omega) (by decide) (by decide) ?_ ?_
                    · intro hc76
                      change pw_g h 132 (k66_7.toNat) = (0 : Int) at hc76
                      refine pw_ld E (pc' := 158) (st' := [pw_i 0, pw_i k66_6]) rfl (fun _ => rfl) ?_
                      refine pw_add E (pc' := 159) rfl rfl ?_
                      refine pw_ist E (pc' := 161) (ls' := [some (.ref 141), some (pw_i mo), some (pw_i ((pw_g h 136 (mo.toNat)) - (pw_g h 136 ((mo - 1).toNat)))), some (pw_i ((pw_g h 136 ((12 + mo).toNat)) - (pw_g h 136 (((12 + mo) - 1).toNat)))), some (pw_i 0), some (pw_i x72), some (pw_i (k66_6 + 0)), some (pw_i k66_7), some (pw_i x49)]) rfl rfl rfl rfl ?_
                      refine pw_inc E (pc' := 164) (ls' := [some (.ref 141), some (pw_i mo), some (pw_i ((pw_g h 136 (mo.toNat)) - (pw_g h 136 ((mo - 1).toNat)))), some (pw_i ((pw_g h 136 ((12 + mo).toNat)) - (pw_g h 136 (((12 + mo) - 1).toNat)))), some (pw_i 0), some (pw_i x72), some (pw_i (k66_6 + 0)), some (pw_i (k66_7 + 1)), some (pw_i x49)]) rfl rfl rfl rfl ?_
                      refine pw_goto E (pc' := 66) rfl (by decide) ?_
                      exact ih66 _ (by omega) (x72) (k66_6 + 0) (k66_7 + 1) (some (pw_i x49))  (by omega) (by omega) (by omega) (by omega) (by omega) (by omega)  rfl
                    · intro hc77
                      change ¬ (pw_g h 132 (k66_7.toNat) = (0 : Int)) at hc77
                      exfalso; omega
      exact L66 _ (0) (0) (0) (none)  (by omega) (by omega) (by omega) (by omega) (by omega) (by omega)  rfl
  · intro hc78
    change ¬ ((pw_g h 136 (mo.toNat)) - (pw_g h 136 ((mo - 1).toNat)) ≠ (pw_g h 136 ((12 + mo).toNat)) - (pw_g h 136 (((12 + mo) - 1).toNat))) at hc78
    refine pw_ld E (pc' := 44) (st' := [pw_i 0]) rfl (fun _ => rfl) ?_
    refine pw_iret E rfl ?_
    exact ⟨rfl, ⟨_, rfl, by omega, by omega⟩⟩
set_option maxHeartbeats 4000000 in
theorem cm_304 {X : List (Nat × List Value)} {d : Nat} {h : pm_H} (hd : 3 ≤ d) (I : pw_I h) (wt : Int) (hwt1 : (-2147483648) ≤ wt) (hwt2 : wt ≤ 2147483647) : pw X d h 304 0 [some (.ref 141), some (pw_i wt), none, none, none] [] (fun h' v => pw_I h' ∧ pw_E [125] h h' ∧ ∃ a : Int, v = .inl (some (pw_i a)) ∧ (-2147483648) ≤ a ∧ a ≤ 2147483647) := by
  have E : pm_ent 304 = some (2, 5, 12, 0, pmc_304) := rfl
  have E0 : pw_E [125] h h := pw_E.rf _ _
  refine pw_ld E (pc' := 1) (st' := [.ref 141]) rfl (fun _ => rfl) ?_
  refine pw_ld E (pc' := 2) (st' := [pw_i 0, .ref 141]) rfl (fun _ => rfl) ?_
  refine pw_putI I E (c := 125) (k := 0) (pc' := 5) rfl rfl rfl rfl (by omega) (by omega) (by omega) (by omega) rfl rfl ?_
  intro h1I h1E
  generalize h1w : pw_w h 125 0 (pw_i 0) = h1 at h1I h1E ⊢
  have h1F := E0.tr (h1E.wk (W' := [125]) (by first | rfl | simp))
  refine pw_ld E (pc' := 6) (st' := [pw_i wt]) rfl (fun _ => rfl) ?_
  refine pw_call (m' := 217) (As := [pw_i wt]) (rest := []) (ls'' := [some (pw_i wt)]) (Nat.le_trans (by decide) hd) E rfl (fun _ => pw_iS rfl rfl rfl) (rfl : pm_ent 217 = some (1, 1, 12, 1, pmc_217)) rfl rfl (cm_217 (pw_dp hd (by decide)) h1I (wt) (by omega) (by omega)) ?_
  rintro u3 v2 ⟨rfl, x4, rfl, hx4a, hx4b, hx4r⟩
  refine ⟨_, rfl, ?_⟩
  show pw X d h1 304 9 [some (.ref 141), some (pw_i wt), none, none, none] [pw_i x4] _
  change (x4 = 1 ∧ 0 ≤ wt ∧ wt ≤ 1) ∨ (x4 = 0 ∧ ¬ (0 ≤ wt ∧ wt ≤ 1)) at hx4r
  rcases (by omega : x4 = 1 ∨ x4 = 0) with hb5 | hb5
  · skip
    refine pw_if E (pc' := 14) rfl (by decide) (by omega) (by omega) ?_ ?_
    · intro hc6
      change x4 ≠ (0 : Int) at hc6
      refine pw_ld E (pc' := 15) (st' := [pw_i ((-1))]) rfl (fun _ => rfl) ?_
      refine pw_istn E (pc' := 16) (ls' := [some (.ref 141), some (pw_i wt), some (pw_i ((-1))), none, none]) rfl rfl rfl rfl ?_
      refine pw_ld E (pc' := 17) (st' := [pw_i 0]) rfl (fun _ => rfl) ?_
      refine pw_istn E (pc' := 18) (ls' := [some (.ref 141), some (pw_i wt), some (pw_i ((-1))), some (pw_i 0), none]) rfl rfl rfl rfl ?_
      refine pw_ld E (pc' := 19) (st' := [pw_i 1]) rfl (fun _ => rfl) ?_
      refine pw_ist E (pc' := 21) (ls' := [some (.ref 141), some (pw_i wt), some (pw_i ((-1))), some (pw_i 0), some (pw_i 1)]) rfl rfl rfl rfl ?_
      have L21 : ∀ (n21 : Nat) (k21_2 : Int) (k21_3 : Int) (k21_4 : Int), (-2147483648) ≤ k21_2 → k21_2 ≤ 2147483647 → (-2147483648) ≤ k21_3 → k21_3 ≤ 2147483647 → 1 ≤ k21_4 → k21_4 ≤ 12 → (12 - k21_4).toNat = n21 → pw X d h1 304 21 [some (.ref 141), some (pw_i wt), some (pw_i k21_2), some (pw_i k21_3), some (pw_i k21_4)] [] (fun h' v => pw_I h' ∧ pw_E [125] h h' ∧ ∃ a : Int, v = .inl (some (pw_i a)) ∧ (-2147483648) ≤ a ∧ a ≤ 2147483647) := by
        intro n21
        induction n21 using Nat.strongRecOn with
        | ind n21 ih21 =>
          intro k21_2 k21_3 k21_4 k21_2a k21_2b k21_3a k21_3b k21_4a k21_4b hm21
          refine pw_ld E (pc' := 23) (st' := [pw_i k21_4]) rfl (fun _ => rfl) ?_
          refine pw_bip E (pc' := 25) rfl rfl (by decide) ?_
          refine pw_if2 E (pc' := 54) rfl (by decide) (by omega) (by omega) (by decide) (by decide) ?_ ?_
          · intro hc7
            change (12 : Int) ≤ k21_4 at hc7
            refine pw_ld E (pc' := 55) (st' := [pw_i k21_2]) rfl (fun _ => rfl) ?_
            refine pw_if E (pc' := 62) rfl (by decide) (by omega) (by omega) ?_ ?_
            · intro hc8
              change (0 : Int) ≤ k21_2 at hc8
              refine pw_ld E (pc' := 63) (st' := [pw_i wt]) rfl (fun _ => rfl) ?_
              refine pw_if E (pc' := 70) rfl (by decide) (by omega) (by omega) ?_ ?_
              · intro hc9
                change wt ≠ (0 : Int) at hc9
                refine pw_ld E (pc' := 71) (st' := [pw_i k21_3]) rfl (fun _ => rfl) ?_
                refine pw_iret E rfl ?_
                exact ⟨h1I, h1F, ⟨_, rfl, by omega, by omega⟩⟩
              · intro hc10
                change ¬ (wt ≠ (0 : Int)) at hc10
                refine pw_ld E (pc' := 67) (st' := [pw_i k21_2]) rfl (fun _ => rfl) ?_
                refine pw_goto E (pc' := 71) rfl (by decide) ?_
                refine pw_iret E rfl ?_
                exact ⟨h1I, h1F, ⟨_, rfl, by omega, by omega⟩⟩
            · intro hc11
              change ¬ ((0 : Int) ≤ k21_2) at hc11
              refine pw_ld E (pc' := 59) (st' := [pw_i ((-1))]) rfl (fun _ => rfl) ?_
              refine pw_goto E (pc' := 71) rfl (by decide) ?_
              refine pw_iret E rfl ?_
              exact ⟨h1I, h1F, ⟨_, rfl, by omega, by omega⟩⟩
          · intro hc12
            change ¬ ((12 : Int) ≤ k21_4) at hc12
            refine pw_ld E (pc' := 29) (st' := [.ref 141]) rfl (fun _ => rfl) ?_
            refine pw_ld E (pc' := 31) (st' := [pw_i k21_4, .ref 141]) rfl (fun _ => rfl) ?_
            obtain ⟨f13l, f13h, -⟩ := pw_obj (c := 125) h1I rfl
            refine pw_call (m' := 305) (As := [.ref 141, pw_i k21_4]) (rest := []) (ls'' := [some (.ref 141), some (pw_i k21_4), none, none, none, none, none, none, none]) (Nat.le_trans (by decide) hd) E rfl (fun _ => pw_iV rfl rfl rfl rfl (pw_cellI f13h rfl)) (rfl : pm_ent 305 = some (2, 9, 12, 0, pmc_305)) rfl rfl (cm_305 (pw_dp hd (by decide)) h1I (k21_4) (by omega) (by omega)) ?_
            rintro u15 v14 ⟨rfl, x16, rfl, hx16a, hx16b⟩
            refine ⟨_, rfl, ?_⟩
            show pw X d h1 304 34 [some (.ref 141), some (pw_i wt), some (pw_i k21_2), some (pw_i k21_3), some (pw_i k21_4)] [pw_i x16] _
            refine pw_ld E (pc' := 35) (st' := [pw_i k21_3, pw_i x16]) rfl (fun _ => rfl) ?_
            refine pw_if2 E (pc' := 48) rfl (by decide) (by omega) (by omega) (by omega) (by omega) ?_ ?_
            · intro hc17
              change x16 ≤ k21_3 at hc17
              refine pw_inc E (pc' := 51) (ls' := [some (.ref 141), some (pw_i wt), some (pw_i k21_2), some (pw_i k21_3), some (pw_i (k21_4 + 1))]) rfl rfl rfl rfl ?_
              refine pw_goto E (pc' := 21) rfl (by decide) ?_
              exact ih21 _ (by omega) (k21_2) (k21_3) (k21_4 + 1)  (by omega) (by omega) (by omega) (by omega) (by omega) (by omega)  rfl
            · intro hc18
              change ¬ (x16 ≤ k21_3) at hc18
              refine pw_ld E (pc' := 39) (st' := [.ref 141]) rfl (fun _ => rfl) ?_
              refine pw_ld E (pc' := 41) (st' := [pw_i k21_4, .ref 141]) rfl (fun _ => rfl) ?_
              obtain ⟨f19l, f19h, -⟩ := pw_obj (c := 125) h1I rfl
              refine pw_call (m' := 305) (As := [.ref 141, pw_i k21_4]) (rest := []) (ls'' := [some (.ref 141), some (pw_i k21_4), none, none, none, none, none, none, none]) (Nat.le_trans (by decide) hd) E rfl (fun _ => pw_iV rfl rfl rfl rfl (pw_cellI f19h rfl)) (rfl : pm_ent 305 = some (2, 9, 12, 0, pmc_305)) rfl rfl (cm_305 (pw_dp hd (by decide)) h1I (k21_4) (by omega) (by omega)) ?_
              rintro u21 v20 ⟨rfl, x22, rfl, hx22a, hx22b⟩
              refine ⟨_, rfl, ?_⟩
              show pw X d h1 304 44 [some (.ref 141), some (pw_i wt), some (pw_i k21_2), some (pw_i k21_3), some (pw_i k21_4)] [pw_i x22] _
              refine pw_istn E (pc' := 45) (ls' := [some (.ref 141), some (pw_i wt), some (pw_i k21_2), some (pw_i x22), some (pw_i k21_4)]) rfl rfl rfl rfl ?_
              refine pw_ld E (pc' := 47) (st' := [pw_i k21_4]) rfl (fun _ => rfl) ?_
              refine pw_istn E (pc' := 48) (ls' := [some (.ref 141), some (pw_i wt), some (pw_i k21_4), some (pw_i x22), some (pw_i k21_4)]) rfl rfl rfl rfl ?_
              refine pw_inc E (pc' := 51) (ls' := [some (.ref 141), some (pw_i wt), some (pw_i k21_4), some (pw_i x22), some (pw_i (k21_4 + 1))]) rfl rfl rfl rfl ?_
              refine pw_goto E (pc' := 21) rfl (by decide) ?_
              exact ih21 _ (by omega) (k21_4) (x22) (k21_4 + 1)  (by omega) (by omega) (by omega) (by omega) (by omega) (by omega)  rfl
      exact L21 _ ((-1)) (0) (1)  (by omega) (by omega) (by omega) (by omega) (by omega) (by omega)  rfl
    · intro hc23
      change ¬ (x4 ≠ (0 : Int)) at hc23
      exfalso; omega
  · skip
    refine pw_if E (pc' := 14) rfl (by decide) (by omega) (by omega) ?_ ?_
    · intro hc25
      change x4 ≠ (0 : Int) at hc25
      exfalso; omega
    · intro hc26
      change ¬ (x4 ≠ (0 : Int)) at hc26
      refine pw_ld E (pc' := 13) (st' := [pw_i ((-1))]) rfl (fun _ => rfl) ?_
      refine pw_iret E rfl ?_
      exact ⟨h1I, h1F, ⟨_, rfl, by omega, by omega⟩⟩
set_option maxHeartbeats 4000000 in
theorem cm_308 {X : List (Nat × List Value)} {d : Nat} {h : pm_H} (hd : 1 ≤ d) (I : pw_I h) (wt : Int) (hwt1 : (-2147483648) ≤ wt) (hwt2 : wt ≤ 2147483647) : pw X d h 308 0 [some (.ref 141), some (pw_i wt), none, none] [] (fun h' v => pw_I h' ∧ pw_E [125] h h' ∧ ∃ a : Int, v = .inl (some (pw_i a)) ∧ (-2147483648) ≤ a ∧ a ≤ 2147483647) := by
  have E : pm_ent 308 = some (2, 4, 12, 0, pmc_308) := rfl
  have E0 : pw_E [125] h h := pw_E.rf _ _
  refine pw_ld E (pc' := 1) (st' := [.ref 141]) rfl (fun _ => rfl) ?_
  refine pw_ld E (pc' := 2) (st' := [pw_i 0, .ref 141]) rfl (fun _ => rfl) ?_
  refine pw_putI I E (c := 125) (k := 0) (pc' := 5) rfl rfl rfl rfl (by omega) (by omega) (by omega) (by omega) rfl rfl ?_
  intro h1I h1E
  generalize h1w : pw_w h 125 0 (pw_i 0) = h1 at h1I h1E ⊢
  have h1F := E0.tr (h1E.wk (W' := [125]) (by first | rfl | simp))
  refine pw_ld E (pc' := 6) (st' := [pw_i 0]) rfl (fun _ => rfl) ?_
  refine pw_istn E (pc' := 7) (ls' := [some (.ref 141), some (pw_i wt), some (pw_i 0), none]) rfl rfl rfl rfl ?_
  refine pw_ld E (pc' := 8) (st' := [pw_i wt]) rfl (fun _ => rfl) ?_
  rcases (by omega : wt = 0 ∨ wt = 1 ∨ wt = 2 ∨ wt = 3 ∨ wt = 4 ∨ wt = 5 ∨ wt = 6 ∨ wt = 7 ∨ (wt < 0 ∨ 7 < wt)) with hs2 | hs2 | hs2 | hs2 | hs2 | hs2 | hs2 | hs2 | hs2
  · refine pw_tswJ (o := 48) E (pc' := 56) rfl (by omega) (by omega) (by omega) (by rw [hs2]; rfl) (by decide) ?_
    refine pw_ld E (pc' := 57) (st' := [pw_i 0]) rfl (fun _ => rfl) ?_
    refine pw_istn E (pc' := 58) (ls' := [some (.ref 141), some (pw_i wt), some (pw_i 0), some (pw_i 0)]) rfl rfl rfl rfl ?_
    have L58 : ∀ (n58 : Nat) (k58_2 : Int) (k58_3 : Int), (-2147483648) ≤ k58_2 → k58_2 ≤ 2147483647 → 0 ≤ k58_3 → k58_3 ≤ 24 → (24 - k58_3).toNat = n58 → pw X d h1 308 58 [some (.ref 141), some (pw_i wt), some (pw_i k58_2), some (pw_i k58_3)] [] (fun h' v => pw_I h' ∧ pw_E [125] h h' ∧ ∃ a : Int, v = .inl (some (pw_i a)) ∧ (-2147483648) ≤ a ∧ a ≤ 2147483647) := by
      intro n58
      induction n58 using Nat.strongRecOn with
      | ind n58 ih58 =>
        intro k58_2 k58_3 k58_2a k58_2b k58_3a k58_3b hm58
        refine pw_ld E (pc' := 59) (st' := [pw_i k58_3]) rfl (fun _ => rfl) ?_
        refine pw_bip E (pc' := 61) rfl rfl (by decide) ?_
        refine pw_if2 E (pc' := 100) rfl (by decide) (by omega) (by omega) (by decide) (by decide) ?_ ?_
        · intro hc3
          change (24 : Int) ≤ k58_3 at hc3
          refine pw_ld E (pc' := 101) (st' := [pw_i k58_2]) rfl (fun _ => rfl) ?_
          refine pw_iret E rfl ?_
          exact ⟨h1I, h1F, ⟨_, rfl, by omega, by omega⟩⟩
        · intro hc4
          change ¬ ((24 : Int) ≤ k58_3) at hc4
          refine pw_ld E (pc' := 65) (st' := [pw_i k58_2]) rfl (fun _ => rfl) ?_
          refine pw_ld E (pc' := 66) (st' := [.ref 141, pw_i k58_2]) rfl (fun _ => rfl) ?_
          refine pw_getR (b := 147) h1I E (c := 125) (k := 10) (pc' := 69) rfl rfl rfl rfl rfl rfl rfl ?_
          refine pw_ld E (pc' := 70) (st' := [pw_i k58_3, .ref 147, pw_i k58_2]) rfl (fun _ => rfl) ?_
          refine pw_ald2 h1I E (c := 131) (pc' := 71) rfl rfl rfl (by decide) rfl (by decide) (by omega) (by omega) rfl (fun hf5a hf5b => ?_)
          refine pw_if E (pc' := 91) rfl (by decide) (by omega) (by omega) ?_ ?_
          · intro hc6
            change pw_g h1 131 (k58_3.toNat) = (0 : Int) at hc6
            refine pw_ld E (pc' := 92) (st' := [pw_i 0, pw_i k58_2]) rfl (fun _ => rfl) ?_
            refine pw_add E (pc' := 93) rfl rfl ?_
            refine pw_istn E (pc' := 94) (ls' := [some (.ref 141), some (pw_i wt), some (pw_i (k58_2 + 0)), some (pw_i k58_3)]) rfl rfl rfl rfl ?_
            refine pw_inc E (pc' := 97) (ls' := [some (.ref 141), some (pw_i wt), some (pw_i (k58_2 + 0)), some (pw_i (k58_3 + 1))]) rfl rfl rfl rfl ?_
            refine pw_goto E (pc' := 58) rfl (by decide) ?_
            exact ih58 _ (by omega) (k58_2 + 0) (k58_3 + 1)  (by omega) (by omega) (by omega) (by omega)  rfl
          · intro hc7
            change ¬ (pw_g h1 131 (k58_3.toNat) = (0 : Int)) at hc7
            refine pw_ld E (pc' := 75) (st' := [pw_i wt, pw_i k58_2]) rfl (fun _ => rfl) ?_
            refine pw_if E (pc' := 87) rfl (by decide) (by omega) (by omega) ?_ ?_
            · intro hc8
              change wt = (0 : Int) at hc8
              refine pw_ld E (pc' := 88) (st' := [pw_i 1, pw_i k58_2]) rfl (fun _ => rfl) ?_
              refine pw_goto E (pc' := 92) rfl (by decide) ?_
              refine pw_add E (pc' := 93) rfl rfl ?_
              refine pw_nm (fun x9 hx9a hx9b => ?_)
              refine pw_istn E (pc' := 94) (ls' := [some (.ref 141), some (pw_i wt), some (pw_i x9), some (pw_i k58_3)]) rfl rfl rfl rfl ?_
              refine pw_inc E (pc' := 97) (ls' := [some (.ref 141), some (pw_i wt), some (pw_i x9), some (pw_i (k58_3 + 1))]) rfl rfl rfl rfl ?_
              refine pw_goto E (pc' := 58) rfl (by decide) ?_
              exact ih58 _ (by omega) (x9) (k58_3 + 1)  (by omega) (by omega) (by omega) (by omega)  rfl
            · intro hc10
              change ¬ (wt = (0 : Int)) at hc10
              exfalso; omega
    exact L58 _ (0) (0)  (by omega) (by omega) (by omega) (by omega)  rfl
  · refine pw_tswJ (o := 94) E (pc' := 102) rfl (by omega) (by omega) (by omega) (by rw [hs2]; rfl) (by decide) ?_
    refine pw_ld E (pc' := 103) (st' := [pw_i 0]) rfl (fun _ => rfl) ?_
    refine pw_istn E (pc' := 104) (ls' := [some (.ref 141), some (pw_i wt), some (pw_i 0), some (pw_i 0)]) rfl rfl rfl rfl ?_
    have L104 : ∀ (n104 : Nat) (k104_2 : Int) (k104_3 : Int), (-2147483648) ≤ k104_2 → k104_2 ≤ 2147483647 → 0 ≤ k104_3 → k104_3 ≤ 288 → (288 - k104_3).toNat = n104 → pw X d h1 308 104 [some (.ref 141), some (pw_i wt), some (pw_i k104_2), some (pw_i k104_3)] [] (fun h' v => pw_I h' ∧ pw_E [125] h h' ∧ ∃ a : Int, v = .inl (some (pw_i a)) ∧ (-2147483648) ≤ a ∧ a ≤ 2147483647) := by
      intro n104
      induction n104 using Nat.strongRecOn with
      | ind n104 ih104 =>
        intro k104_2 k104_3 k104_2a k104_2b k104_3a k104_3b hm104
        refine pw_ld E (pc' := 105) (st' := [pw_i k104_3]) rfl (fun _ => rfl) ?_
        refine pw_sip E (pc' := 108) rfl rfl (by decide) ?_
        refine pw_if2 E (pc' := 148) rfl (by decide) (by omega) (by omega) (by decide) (by decide) ?_ ?_
        · intro hc11
          change (288 : Int) ≤ k104_3 at hc11
          refine pw_ld E (pc' := 149) (st' := [pw_i k104_2]) rfl (fun _ => rfl) ?_
          refine pw_iret E rfl ?_
          exact ⟨h1I, h1F, ⟨_, rfl, by omega, by omega⟩⟩
        · intro hc12
          change ¬ ((288 : Int) ≤ k104_3) at hc12
          refine pw_ld E (pc' := 112) (st' := [pw_i k104_2]) rfl (fun _ => rfl) ?_
          refine pw_ld E (pc' := 113) (st' := [pw_i wt, pw_i k104_2]) rfl (fun _ => rfl) ?_
          refine pw_ld E (pc' := 114) (st' := [pw_i 1, pw_i wt, pw_i k104_2]) rfl (fun _ => rfl) ?_
          refine pw_if2 E (pc' := 134) rfl (by decide) (by omega) (by omega) (by decide) (by decide) ?_ ?_
          · intro hc13
            change wt ≠ (1 : Int) at hc13
            exfalso; omega
          · intro hc14
            change ¬ (wt ≠ (1 : Int)) at hc14
            refine pw_ld E (pc' := 118) (st' := [.ref 141, pw_i k104_2]) rfl (fun _ => rfl) ?_
            refine pw_getR (b := 154) h1I E (c := 125) (k := 18) (pc' := 121) rfl rfl rfl rfl rfl rfl rfl ?_
            refine pw_ld E (pc' := 122) (st' := [pw_i k104_3, .ref 154, pw_i k104_2]) rfl (fun _ => rfl) ?_
            refine pw_ald2 h1I E (c := 138) (pc' := 123) rfl rfl rfl (by decide) rfl (by decide) (by omega) (by omega) rfl (fun hf15a hf15b => ?_)
            refine pw_if E (pc' := 130) rfl (by decide) (by omega) (by omega) ?_ ?_
            · intro hc16
              change pw_g h1 138 (k104_3.toNat) = (0 : Int) at hc16
              refine pw_ld E (pc' := 131) (st' := [pw_i 0, pw_i k104_2]) rfl (fun _ => rfl) ?_
              refine pw_goto E (pc' := 140) rfl (by decide) ?_
              refine pw_add E (pc' := 141) rfl rfl ?_
              refine pw_istn E (pc' := 142) (ls' := [some (.ref 141), some (pw_i wt), some (pw_i (k104_2 + 0)), some (pw_i k104_3)]) rfl rfl rfl rfl ?_
              refine pw_inc E (pc' := 145) (ls' := [some (.ref 141), some (pw_i wt), some (pw_i (k104_2 + 0)), some (pw_i (k104_3 + 1))]) rfl rfl rfl rfl ?_
              refine pw_goto E (pc' := 104) rfl (by decide) ?_
              exact ih104 _ (by omega) (k104_2 + 0) (k104_3 + 1)  (by omega) (by omega) (by omega) (by omega)  rfl
            · intro hc17
              change ¬ (pw_g h1 138 (k104_3.toNat) = (0 : Int)) at hc17
              refine pw_ld E (pc' := 127) (st' := [pw_i 1, pw_i k104_2]) rfl (fun _ => rfl) ?_
              refine pw_goto E (pc' := 140) rfl (by decide) ?_
              refine pw_add E (pc' := 141) rfl rfl ?_
              refine pw_nm (fun x18 hx18a hx18b => ?_)
              refine pw_istn E (pc' := 142) (ls' := [some (.ref 141), some (pw_i wt), some (pw_i x18), some (pw_i k104_3)]) rfl rfl rfl rfl ?_
              refine pw_inc E (pc' := 145) (ls' := [some (.ref 141), some (pw_i wt), some (pw_i x18), some (pw_i (k104_3 + 1))]) rfl rfl rfl rfl ?_
              refine pw_goto E (pc' := 104) rfl (by decide) ?_
              exact ih104 _ (by omega) (x18) (k104_3 + 1)  (by omega) (by omega) (by omega) (by omega)  rfl
    exact L104 _ (0) (0)  (by omega) (by omega) (by omega) (by omega)  rfl
  · refine pw_tswJ (o := 94) E (pc' := 102) rfl (by omega) (by omega) (by omega) (by rw [hs2]; rfl) (by decide) ?_
    refine pw_ld E (pc' := 103) (st' := [pw_i 0]) rfl (fun _ => rfl) ?_
    refine pw_istn E (pc' := 104) (ls' := [some (.ref 141), some (pw_i wt), some (pw_i 0), some (pw_i 0)]) rfl rfl rfl rfl ?_
    have L104 : ∀ (n104 : Nat) (k104_2 : Int) (k104_3 : Int), (-2147483648) ≤ k104_2 → k104_2 ≤ 2147483647 → 0 ≤ k104_3 → k104_3 ≤ 288 → (288 - k104_3).toNat = n104 → pw X d h1 308 104 [some (.ref 141), some (pw_i wt), some (pw_i k104_2), some (pw_i k104_3)] [] (fun h' v => pw_I h' ∧ pw_E [125] h h' ∧ ∃ a : Int, v = .inl (some (pw_i a)) ∧ (-2147483648) ≤ a ∧ a ≤ 2147483647) := by
      intro n104
      induction n104 using Nat.strongRecOn with
      | ind n104 ih104 =>
        intro k104_2 k104_3 k104_2a k104_2b k104_3a k104_3b hm104
        refine pw_ld E (pc' := 105) (st' := [pw_i k104_3]) rfl (fun _ => rfl) ?_
        refine pw_sip E (pc' := 108) rfl rfl (by decide) ?_
        refine pw_if2 E (pc' := 148) rfl (by decide) (by omega) (by omega) (by decide) (by decide) ?_ ?_
        · intro hc19
          change (288 : Int) ≤ k104_3 at hc19
          refine pw_ld E (pc' := 149) (st' := [pw_i k104_2]) rfl (fun _ => rfl) ?_
          refine pw_iret E rfl ?_
          exact ⟨h1I, h1F, ⟨_, rfl, by omega, by omega⟩⟩
        · intro hc20
          change ¬ ((288 : Int) ≤ k104_3) at hc20
          refine pw_ld E (pc' := 112) (st' := [pw_i k104_2]) rfl (fun _ => rfl) ?_
          refine pw_ld E (pc' := 113) (st' := [pw_i wt, pw_i k104_2]) rfl (fun _ => rfl) ?_
          refine pw_ld E (pc' := 114) (st' := [pw_i 1, pw_i wt, pw_i k104_2]) rfl (fun _ => rfl) ?_
          refine pw_if2 E (pc' := 134) rfl (by decide) (by omega) (by omega) (by decide) (by decide) ?_ ?_
          · intro hc21
            change wt ≠ (1 : Int) at hc21
            refine pw_ld E (pc' := 135) (st' := [.ref 141, pw_i k104_2]) rfl (fun _ => rfl) ?_
            refine pw_getR (b := 157) h1I E (c := 125) (k := 21) (pc' := 138) rfl rfl rfl rfl rfl rfl rfl ?_
            refine pw_ld E (pc' := 139) (st' := [pw_i k104_3, .ref 157, pw_i k104_2]) rfl (fun _ => rfl) ?_
            refine pw_ald2 h1I E (c := 141) (pc' := 140) rfl rfl rfl (by decide) rfl (by decide) (by omega) (by omega) rfl (fun hf22a hf22b => ?_)
            refine pw_add E (pc' := 141) rfl rfl ?_
            refine pw_nm (fun x23 hx23a hx23b => ?_)
            refine pw_istn E (pc' := 142) (ls' := [some (.ref 141), some (pw_i wt), some (pw_i x23), some (pw_i k104_3)]) rfl rfl rfl rfl ?_
            refine pw_inc E (pc' := 145) (ls' := [some (.ref 141), some (pw_i wt), some (pw_i x23), some (pw_i (k104_3 + 1))]) rfl rfl rfl rfl ?_
            refine pw_goto E (pc' := 104) rfl (by decide) ?_
            exact ih104 _ (by omega) (x23) (k104_3 + 1)  (by omega) (by omega) (by omega) (by omega)  rfl
          · intro hc24
            change ¬ (wt ≠ (1 : Int)) at hc24
            exfalso; omega
    exact L104 _ (0) (0)  (by omega) (by omega) (by omega) (by omega)  rfl
  · refine pw_tswJ (o := 142) E (pc' := 150) rfl (by omega) (by omega) (by omega) (by rw [hs2]; rfl) (by decide) ?_
    refine pw_ld E (pc' := 151) (st' := [.ref 141]) rfl (fun _ => rfl) ?_
    refine pw_getI2 h1I E (c := 125) (k := 41) (pc' := 154) rfl rfl rfl rfl rfl rfl (fun hf25a hf25b => ?_)
    refine pw_iret E rfl ?_
    exact ⟨h1I, h1F, ⟨_, rfl, by omega, by omega⟩⟩
  · refine pw_tswJ (o := 147) E (pc' := 155) rfl (by omega) (by omega) (by omega) (by rw [hs2]; rfl) (by decide) ?_
    refine pw_ld E (pc' := 156) (st' := [pw_i 0]) rfl (fun _ => rfl) ?_
    refine pw_istn E (pc' := 157) (ls' := [some (.ref 141), some (pw_i wt), some (pw_i 0), some (pw_i 0)]) rfl rfl rfl rfl ?_
    have L157 : ∀ (n157 : Nat) (k157_2 : Int) (k157_3 : Int), (-2147483648) ≤ k157_2 → k157_2 ≤ 2147483647 → 0 ≤ k157_3 → k157_3 ≤ 20 → (20 - k157_3).toNat = n157 → pw X d h1 308 157 [some (.ref 141), some (pw_i wt), some (pw_i k157_2), some (pw_i k157_3)] [] (fun h' v => pw_I h' ∧ pw_E [125] h h' ∧ ∃ a : Int, v = .inl (some (pw_i a)) ∧ (-2147483648) ≤ a ∧ a ≤ 2147483647) := by
      intro n157
      induction n157 using Nat.strongRecOn with
      | ind n157 ih157 =>
        intro k157_2 k157_3 k157_2a k157_2b k157_3a k157_3b hm157
        refine pw_ld E (pc' := 158) (st' := [pw_i k157_3]) rfl (fun _ => rfl) ?_
        refine pw_ld E (pc' := 159) (st' := [.ref 141, pw_i k157_3]) rfl (fun _ => rfl) ?_
        refine pw_getI2 h1I E (c := 125) (k := 41) (pc' := 162) rfl rfl rfl rfl rfl rfl (fun hf26a hf26b => ?_)
        refine pw_if2 E (pc' := 188) rfl (by decide) (by omega) (by omega) (by omega) (by omega) ?_ ?_
        · intro hc27
          change pw_g h1 125 41 ≤ k157_3 at hc27
          refine pw_ld E (pc' := 189) (st' := [pw_i k157_2]) rfl (fun _ => rfl) ?_
          refine pw_iret E rfl ?_
          exact ⟨h1I, h1F, ⟨_, rfl, by omega, by omega⟩⟩
        · intro hc28
          change ¬ (pw_g h1 125 41 ≤ k157_3) at hc28
          refine pw_ld E (pc' := 166) (st' := [pw_i k157_2]) rfl (fun _ => rfl) ?_
          refine pw_ld E (pc' := 167) (st' := [.ref 141, pw_i k157_2]) rfl (fun _ => rfl) ?_
          refine pw_getR (b := 172) h1I E (c := 125) (k := 44) (pc' := 170) rfl rfl rfl rfl rfl rfl rfl ?_
          refine pw_ld E (pc' := 171) (st' := [pw_i k157_3, .ref 172, pw_i k157_2]) rfl (fun _ => rfl) ?_
          refine pw_ald2 h1I E (c := 156) (pc' := 172) rfl rfl rfl (by decide) rfl (by decide) (by omega) (by omega) rfl (fun hf29a hf29b => ?_)
          refine pw_if E (pc' := 179) rfl (by decide) (by omega) (by omega) ?_ ?_
          · intro hc30
            change pw_g h1 156 (k157_3.toNat) = (0 : Int) at hc30
            refine pw_ld E (pc' := 180) (st' := [pw_i 0, pw_i k157_2]) rfl (fun _ => rfl) ?_
            refine pw_add E (pc' := 181) rfl rfl ?_
            refine pw_istn E (pc' := 182) (ls' := [some (.ref 141), some (pw_i wt), some (pw_i (k157_2 + 0)), some (pw_i k157_3)]) rfl rfl rfl rfl ?_
            refine pw_inc E (pc' := 185) (ls' := [some (.ref 141), some (pw_i wt), some (pw_i (k157_2 + 0)), some (pw_i (k157_3 + 1))]) rfl rfl rfl rfl ?_
            refine pw_goto E (pc' := 157) rfl (by decide) ?_
            exact ih157 _ (by omega) (k157_2 + 0) (k157_3 + 1)  (by omega) (by omega) (by omega) (by omega)  rfl
          · intro hc31
            change ¬ (pw_g h1 156 (k157_3.toNat) = (0 : Int)) at hc31
            refine pw_ld E (pc' := 176) (st' := [pw_i 1, pw_i k157_2]) rfl (fun _ => rfl) ?_
            refine pw_goto E (pc' := 180) rfl (by decide) ?_
            refine pw_add E (pc' := 181) rfl rfl ?_
            refine pw_nm (fun x32 hx32a hx32b => ?_)
            refine pw_istn E (pc' := 182) (ls' := [some (.ref 141), some (pw_i wt), some (pw_i x32), some (pw_i k157_3)]) rfl rfl rfl rfl ?_
            refine pw_inc E (pc' := 185) (ls' := [some (.ref 141), some (pw_i wt), some (pw_i x32), some (pw_i (k157_3 + 1))]) rfl rfl rfl rfl ?_
            refine pw_goto E (pc' := 157) rfl (by decide) ?_
            exact ih157 _ (by omega) (x32) (k157_3 + 1)  (by omega) (by omega) (by omega) (by omega)  rfl
    exact L157 _ (0) (0)  (by omega) (by omega) (by omega) (by omega)  rfl
  · refine pw_tswJ (o := 182) E (pc' := 190) rfl (by omega) (by omega) (by omega) (by rw [hs2]; rfl) (by decide) ?_
    refine pw_ld E (pc' := 191) (st' := [.ref 141]) rfl (fun _ => rfl) ?_
    refine pw_getI2 h1I E (c := 125) (k := 15) (pc' := 194) rfl rfl rfl rfl rfl rfl (fun hf33a hf33b => ?_)
    refine pw_iret E rfl ?_
    exact ⟨h1I, h1F, ⟨_, rfl, by omega, by omega⟩⟩
  · refine pw_tswJ (o := 187) E (pc' := 195) rfl (by omega) (by omega) (by omega) (by rw [hs2]; rfl) (by decide) ?_
    refine pw_ld E (pc' := 196) (st' := [.ref 141]) rfl (fun _ => rfl) ?_
    refine pw_getI2 h1I E (c := 125) (k := 2) (pc' := 199) rfl rfl rfl rfl rfl rfl (fun hf34a hf34b => ?_)
    refine pw_iret E rfl ?_
    exact ⟨h1I, h1F, ⟨_, rfl, by omega, by omega⟩⟩
  · refine pw_tswJ (o := 48) E (pc' := 56) rfl (by omega) (by omega) (by omega) (by rw [hs2]; rfl) (by decide) ?_
    refine pw_ld E (pc' := 57) (st' := [pw_i 0]) rfl (fun _ => rfl) ?_
    refine pw_istn E (pc' := 58) (ls' := [some (.ref 141), some (pw_i wt), some (pw_i 0), some (pw_i 0)]) rfl rfl rfl rfl ?_
    have L58 : ∀ (n58 : Nat) (k58_2 : Int) (k58_3 : Int), (-2147483648) ≤ k58_2 → k58_2 ≤ 2147483647 → 0 ≤ k58_3 → k58_3 ≤ 24 → (24 - k58_3).toNat = n58 → pw X d h1 308 58 [some (.ref 141), some (pw_i wt), some (pw_i k58_2), some (pw_i k58_3)] [] (fun h' v => pw_I h' ∧ pw_E [125] h h' ∧ ∃ a : Int, v = .inl (some (pw_i a)) ∧ (-2147483648) ≤ a ∧ a ≤ 2147483647) := by
      intro n58
      induction n58 using Nat.strongRecOn with
      | ind n58 ih58 =>
        intro k58_2 k58_3 k58_2a k58_2b k58_3a k58_3b hm58
        refine pw_ld E (pc' := 59) (st' := [pw_i k58_3]) rfl (fun _ => rfl) ?_
        refine pw_bip E (pc' := 61) rfl rfl (by decide) ?_
        refine pw_if2 E (pc' := 100) rfl (by decide) (by omega) (by omega) (by decide) (by decide) ?_ ?_
        · intro hc35
          change (24 : Int) ≤ k58_3 at hc35
          refine pw_ld E (pc' := 101) (st' := [pw_i k58_2]) rfl (fun _ => rfl) ?_
          refine pw_iret E rfl ?_
          exact ⟨h1I, h1F, ⟨_, rfl, by omega, by omega⟩⟩
        · intro hc36
          change ¬ ((24 : Int) ≤ k58_3) at hc36
          refine pw_ld E (pc' := 65) (st' := [pw_i k58_2]) rfl (fun _ => rfl) ?_
          refine pw_ld E (pc' := 66) (st' := [.ref 141, pw_i k58_2]) rfl (fun _ => rfl) ?_
          refine pw_getR (b := 147) h1I E (c := 125) (k := 10) (pc' := 69) rfl rfl rfl rfl rfl rfl rfl ?_
          refine pw_ld E (pc' := 70) (st' := [pw_i k58_3, .ref 147, pw_i k58_2]) rfl (fun _ => rfl) ?_
          refine pw_ald2 h1I E (c := 131) (pc' := 71) rfl rfl rfl (by decide) rfl (by decide) (by omega) (by omega) rfl (fun hf37a hf37b => ?_)
          refine pw_if E (pc' := 91) rfl (by decide) (by omega) (by omega) ?_ ?_
          · intro hc38
            change pw_g h1 131 (k58_3.toNat) = (0 : Int) at hc38
            refine pw_ld E (pc' := 92) (st' := [pw_i 0, pw_i k58_2]) rfl (fun _ => rfl) ?_
            refine pw_add E (pc' := 93) rfl rfl ?_
            refine pw_istn E (pc' := 94) (ls' := [some (.ref 141), some (pw_i wt), some (pw_i (k58_2 + 0)), some (pw_i k58_3)]) rfl rfl rfl rfl ?_
            refine pw_inc E (pc' := 97) (ls' := [some (.ref 141), some (pw_i wt), some (pw_i (k58_2 + 0)), some (pw_i (k58_3 + 1))]) rfl rfl rfl rfl ?_
            refine pw_goto E (pc' := 58) rfl (by decide) ?_
            exact ih58 _ (by omega) (k58_2 + 0) (k58_3 + 1)  (by omega) (by omega) (by omega) (by omega)  rfl
          · intro hc39
            change ¬ (pw_g h1 131 (k58_3.toNat) = (0 : Int)) at hc39
            refine pw_ld E (pc' := 75) (st' := [pw_i wt, pw_i k58_2]) rfl (fun _ => rfl) ?_
            refine pw_if E (pc' := 87) rfl (by decide) (by omega) (by omega) ?_ ?_
            · intro hc40
              change wt = (0 : Int) at hc40
              exfalso; omega
            · intro hc41
              change ¬ (wt = (0 : Int)) at hc41
              refine pw_ld E (pc' := 79) (st' := [.ref 141, pw_i k58_2]) rfl (fun _ => rfl) ?_
              refine pw_getR (b := 151) h1I E (c := 125) (k := 14) (pc' := 82) rfl rfl rfl rfl rfl rfl rfl ?_
              refine pw_ld E (pc' := 83) (st' := [pw_i k58_3, .ref 151, pw_i k58_2]) rfl (fun _ => rfl) ?_
              refine pw_ald2 h1I E (c := 135) (pc' := 84) rfl rfl rfl (by decide) rfl (by decide) (by omega) (by omega) rfl (fun hf42a hf42b => ?_)
              refine pw_if E (pc' := 91) rfl (by decide) (by omega) (by omega) ?_ ?_
              · intro hc43
                change pw_g h1 135 (k58_3.toNat) = (0 : Int) at hc43
                refine pw_ld E (pc' := 92) (st' := [pw_i 0, pw_i k58_2]) rfl (fun _ => rfl) ?_
                refine pw_add E (pc' := 93) rfl rfl ?_
                refine pw_istn E (pc' := 94) (ls' := [some (.ref 141), some (pw_i wt), some (pw_i (k58_2 + 0)), some (pw_i k58_3)]) rfl rfl rfl rfl ?_
                refine pw_inc E (pc' := 97) (ls' := [some (.ref 141), some (pw_i wt), some (pw_i (k58_2 + 0)), some (pw_i (k58_3 + 1))]) rfl rfl rfl rfl ?_
                refine pw_goto E (pc' := 58) rfl (by decide) ?_
                exact ih58 _ (by omega) (k58_2 + 0) (k58_3 + 1)  (by omega) (by omega) (by omega) (by omega)  rfl
              · intro hc44
                change ¬ (pw_g h1 135 (k58_3.toNat) = (0 : Int)) at hc44
                refine pw_ld E (pc' := 88) (st' := [pw_i 1, pw_i k58_2]) rfl (fun _ => rfl) ?_
                refine pw_goto E (pc' := 92) rfl (by decide) ?_
                refine pw_add E (pc' := 93) rfl rfl ?_
                refine pw_nm (fun x45 hx45a hx45b => ?_)
                refine pw_istn E (pc' := 94) (ls' := [some (.ref 141), some (pw_i wt), some (pw_i x45), some (pw_i k58_3)]) rfl rfl rfl rfl ?_
                refine pw_inc E (pc' := 97) (ls' := [some (.ref 141), some (pw_i wt), some (pw_i x45), some (pw_i (k58_3 + 1))]) rfl rfl rfl rfl ?_
                refine pw_goto E (pc' := 58) rfl (by decide) ?_
                exact ih58 _ (by omega) (x45) (k58_3 + 1)  (by omega) (by omega) (by omega) (by omega)  rfl
    exact L58 _ (0) (0)  (by omega) (by omega) (by omega) (by omega)  rfl
  · refine pw_tswD E (pc' := 200) rfl (by omega) (by omega) hs2 (by decide) ?_
    refine pw_ld E (pc' := 201) (st' := [pw_i ((-1))]) rfl (fun _ => rfl) ?_
    refine pw_iret E rfl ?_
    exact ⟨h1I, h1F, ⟨_, rfl, by omega, by omega⟩⟩
set_option maxHeartbeats 4000000 in
theorem cm_281 {X : List (Nat × List Value)} {d : Nat} {h : pm_H} (hd : 1 ≤ d) (I : pw_I h) (ix : Int) (hix1 : 0 ≤ ix) (hix2 : ix ≤ 3) : pw X d h 281 0 [some (.ref 141), some (pw_i ix)] [] (fun h' v => h = h' ∧ ∃ a : Int, v = .inl (some (pw_i a)) ∧ 0 ≤ a ∧ a ≤ 10) := by
  have E : pm_ent 281 = some (2, 2, 12, 0, pmc_281) := rfl
  refine pw_ld E (pc' := 1) (st' := [.ref 141]) rfl (fun _ => rfl) ?_
  refine pw_getR (b := 176) I E (c := 125) (k := 49) (pc' := 4) rfl rfl rfl rfl rfl rfl rfl ?_
  refine pw_ld E (pc' := 5) (st' := [pw_i ix, .ref 176]) rfl (fun _ => rfl) ?_
  refine pw_ald2 I E (c := 160) (pc' := 6) rfl rfl rfl (by decide) rfl (by decide) (by omega) (by omega) rfl (fun hf1a hf1b => ?_)
  refine pw_if E (pc' := 16) rfl (by decide) (by omega) (by omega) ?_ ?_
  · intro hc2
    change (0 : Int) ≤ pw_g h 160 (ix.toNat) at hc2
    refine pw_ld E (pc' := 17) (st' := [.ref 141]) rfl (fun _ => rfl) ?_
    refine pw_getR (b := 176) I E (c := 125) (k := 49) (pc' := 20) rfl rfl rfl rfl rfl rfl rfl ?_
    refine pw_ld E (pc' := 21) (st' := [pw_i ix, .ref 176]) rfl (fun _ => rfl) ?_
    refine pw_ald2 I E (c := 160) (pc' := 22) rfl rfl rfl (by decide) rfl (by decide) (by omega) (by omega) rfl (fun hf3a hf3b => ?_)
    refine pw_iret E rfl ?_
    exact ⟨rfl, ⟨_, rfl, by omega, by omega⟩⟩
  · intro hc4
    change ¬ ((0 : Int) ≤ pw_g h 160 (ix.toNat)) at hc4
    refine pw_ld E (pc' := 10) (st' := [.ref 141]) rfl (fun _ => rfl) ?_
    refine pw_getI2 I E (c := 125) (k := 15) (pc' := 13) rfl rfl rfl rfl rfl rfl (fun hf5a hf5b => ?_)
    refine pw_goto E (pc' := 22) rfl (by decide) ?_
    refine pw_iret E rfl ?_
    exact ⟨rfl, ⟨_, rfl, by omega, by omega⟩⟩
set_option maxHeartbeats 4000000 in
theorem cm_239 {X : List (Nat × List Value)} {d : Nat} {h : pm_H} (hd : 1 ≤ d) (I : pw_I h) (ch : Int) (hch1 : (-2147483648) ≤ ch) (hch2 : ch ≤ 2147483647) : pw X d h 239 0 [some (pw_i ch)] [] (fun h' v => h = h' ∧ ∃ a : Int, v = .inl (some (pw_i a)) ∧ 0 ≤ a ∧ a ≤ 1) := by
  have E : pm_ent 239 = some (1, 1, 12, 1, pmc_239) := rfl
  refine pw_ld E (pc' := 1) (st' := [pw_i ch]) rfl (fun _ => rfl) ?_
  refine pw_bip E (pc' := 3) rfl rfl (by decide) ?_
  refine pw_if2 E (pc' := 16) rfl (by decide) (by omega) (by omega) (by decide) (by decide) ?_ ?_
  · intro hc1
    change ch < (97 : Int) at hc1
    refine pw_ld E (pc' := 17) (st' := [pw_i 0]) rfl (fun _ => rfl) ?_
    refine pw_zret E rfl (by omega) ?_
    exact ⟨rfl, ⟨_, rfl, by omega, by omega⟩⟩
  · intro hc2
    change ¬ (ch < (97 : Int)) at hc2
    refine pw_ld E (pc' := 7) (st' := [pw_i ch]) rfl (fun _ => rfl) ?_
    refine pw_bip E (pc' := 9) rfl rfl (by decide) ?_
    refine pw_if2 E (pc' := 16) rfl (by decide) (by omega) (by omega) (by decide) (by decide) ?_ ?_
    · intro hc3
      change (122 : Int) < ch at hc3
      refine pw_ld E (pc' := 17) (st' := [pw_i 0]) rfl (fun _ => rfl) ?_
      refine pw_zret E rfl (by omega) ?_
      exact ⟨rfl, ⟨_, rfl, by omega, by omega⟩⟩
    · intro hc4
      change ¬ ((122 : Int) < ch) at hc4
      refine pw_ld E (pc' := 13) (st' := [pw_i 1]) rfl (fun _ => rfl) ?_
      refine pw_goto E (pc' := 17) rfl (by decide) ?_
      refine pw_zret E rfl (by omega) ?_
      exact ⟨rfl, ⟨_, rfl, by omega, by omega⟩⟩
set_option maxHeartbeats 4000000 in
theorem cm_242 {X : List (Nat × List Value)} {d : Nat} {h : pm_H} (hd : 1 ≤ d) (I : pw_I h) (ch : Int) (hch1 : (-2147483648) ≤ ch) (hch2 : ch ≤ 2147483647) : pw X d h 242 0 [some (pw_i ch)] [] (fun h' v => h = h' ∧ ∃ a : Int, v = .inl (some (pw_i a)) ∧ 0 ≤ a ∧ a ≤ 1) := by
  have E : pm_ent 242 = some (1, 1, 12, 1, pmc_242) := rfl
  refine pw_ld E (pc' := 1) (st' := [pw_i ch]) rfl (fun _ => rfl) ?_
  refine pw_bip E (pc' := 3) rfl rfl (by decide) ?_
  refine pw_if2 E (pc' := 48) rfl (by decide) (by omega) (by omega) (by decide) (by decide) ?_ ?_
  · intro hc1
    change ch = (40 : Int) at hc1
    refine pw_ld E (pc' := 49) (st' := [pw_i 1]) rfl (fun _ => rfl) ?_
    refine pw_goto E (pc' := 53) rfl (by decide) ?_
    refine pw_zret E rfl (by omega) ?_
    exact ⟨rfl, ⟨_, rfl, by omega, by omega⟩⟩
  · intro hc2
    change ¬ (ch = (40 : Int)) at hc2
    refine pw_ld E (pc' := 7) (st' := [pw_i ch]) rfl (fun _ => rfl) ?_
    refine pw_bip E (pc' := 9) rfl rfl (by decide) ?_
    refine pw_if2 E (pc' := 48) rfl (by decide) (by omega) (by omega) (by decide) (by decide) ?_ ?_
    · intro hc3
      change ch = (41 : Int) at hc3
      refine pw_ld E (pc' := 49) (st' := [pw_i 1]) rfl (fun _ => rfl) ?_
      refine pw_goto E (pc' := 53) rfl (by decide) ?_
      refine pw_zret E rfl (by omega) ?_
      exact ⟨rfl, ⟨_, rfl, by omega, by omega⟩⟩
    · intro hc4
      change ¬ (ch = (41 : Int)) at hc4
      refine pw_ld E (pc' := 13) (st' := [pw_i ch]) rfl (fun _ => rfl) ?_
      refine pw_bip E (pc' := 15) rfl rfl (by decide) ?_
      refine pw_if2 E (pc' := 48) rfl (by decide) (by omega) (by omega) (by decide) (by decide) ?_ ?_
      · intro hc5
        change ch = (59 : Int) at hc5
        refine pw_ld E (pc' := 49) (st' := [pw_i 1]) rfl (fun _ => rfl) ?_
        refine pw_goto E (pc' := 53) rfl (by decide) ?_
        refine pw_zret E rfl (by omega) ?_
        exact ⟨rfl, ⟨_, rfl, by omega, by omega⟩⟩
      · intro hc6
        change ¬ (ch = (59 : Int)) at hc6
        refine pw_ld E (pc' := 19) (st' := [pw_i ch]) rfl (fun _ => rfl) ?_
        refine pw_bip E (pc' := 21) rfl rfl (by decide) ?_
        refine pw_if2 E (pc' := 48) rfl (by decide) (by omega) (by omega) (by decide) (by decide) ?_ ?_
        · intro hc7
          change ch = (61 : Int) at hc7
          refine pw_ld E (pc' := 49) (st' := [pw_i 1]) rfl (fun _ => rfl) ?_
          refine pw_goto E (pc' := 53) rfl (by decide) ?_
          refine pw_zret E rfl (by omega) ?_
          exact ⟨rfl, ⟨_, rfl, by omega, by omega⟩⟩
        · intro hc8
          change ¬ (ch = (61 : Int)) at hc8
          refine pw_ld E (pc' := 25) (st' := [pw_i ch]) rfl (fun _ => rfl) ?_
          refine pw_bip E (pc' := 27) rfl rfl (by decide) ?_
          refine pw_if2 E (pc' := 48) rfl (by decide) (by omega) (by omega) (by decide) (by decide) ?_ ?_
          · intro hc9
            change ch = (60 : Int) at hc9
            refine pw_ld E (pc' := 49) (st' := [pw_i 1]) rfl (fun _ => rfl) ?_
            refine pw_goto E (pc' := 53) rfl (by decide) ?_
            refine pw_zret E rfl (by omega) ?_
            exact ⟨rfl, ⟨_, rfl, by omega, by omega⟩⟩
          · intro hc10
            change ¬ (ch = (60 : Int)) at hc10
            refine pw_ld E (pc' := 31) (st' := [pw_i ch]) rfl (fun _ => rfl) ?_
            refine pw_bip E (pc' := 33) rfl rfl (by decide) ?_
            refine pw_if2 E (pc' := 48) rfl (by decide) (by omega) (by omega) (by decide) (by decide) ?_ ?_
            · intro hc11
              change ch = (43 : Int) at hc11
              refine pw_ld E (pc' := 49) (st' := [pw_i 1]) rfl (fun _ => rfl) ?_
              refine pw_goto E (pc' := 53) rfl (by decide) ?_
              refine pw_zret E rfl (by omega) ?_
              exact ⟨rfl, ⟨_, rfl, by omega, by omega⟩⟩
            · intro hc12
              change ¬ (ch = (43 : Int)) at hc12
              refine pw_ld E (pc' := 37) (st' := [pw_i ch]) rfl (fun _ => rfl) ?_
              refine pw_bip E (pc' := 39) rfl rfl (by decide) ?_
              refine pw_if2 E (pc' := 48) rfl (by decide) (by omega) (by omega) (by decide) (by decide) ?_ ?_
              · intro hc13
                change ch = (45 : Int) at hc13
                refine pw_ld E (pc' := 49) (st' := [pw_i 1]) rfl (fun _ => rfl) ?_
                refine pw_goto E (pc' := 53) rfl (by decide) ?_
                refine pw_zret E rfl (by omega) ?_
                exact ⟨rfl, ⟨_, rfl, by omega, by omega⟩⟩
              · intro hc14
                change ¬ (ch = (45 : Int)) at hc14
                refine pw_ld E (pc' := 43) (st' := [pw_i ch]) rfl (fun _ => rfl) ?_
                refine pw_bip E (pc' := 45) rfl rfl (by decide) ?_
                refine pw_if2 E (pc' := 52) rfl (by decide) (by omega) (by omega) (by decide) (by decide) ?_ ?_
                · intro hc15
                  change ch ≠ (42 : Int) at hc15
                  refine pw_ld E (pc' := 53) (st' := [pw_i 0]) rfl (fun _ => rfl) ?_
                  refine pw_zret E rfl (by omega) ?_
                  exact ⟨rfl, ⟨_, rfl, by omega, by omega⟩⟩
                · intro hc16
                  change ¬ (ch ≠ (42 : Int)) at hc16
                  refine pw_ld E (pc' := 49) (st' := [pw_i 1]) rfl (fun _ => rfl) ?_
                  refine pw_goto E (pc' := 53) rfl (by decide) ?_
                  refine pw_zret E rfl (by omega) ?_
                  exact ⟨rfl, ⟨_, rfl, by omega, by omega⟩⟩
set_option maxHeartbeats 4000000 in
theorem cm_240 {X : List (Nat × List Value)} {d : Nat} {h : pm_H} (hd : 2 ≤ d) (I : pw_I h) (ch : Int) (hch1 : (-2147483648) ≤ ch) (hch2 : ch ≤ 2147483647) : pw X d h 240 0 [some (pw_i ch)] [] (fun h' v => h = h' ∧ ∃ a : Int, v = .inl (some (pw_i a)) ∧ (-2147483648) ≤ a ∧ a ≤ 2147483647) := by
  have E : pm_ent 240 = some (1, 1, 12, 0, pmc_240) := rfl
  refine pw_ld E (pc' := 1) (st' := [pw_i ch]) rfl (fun _ => rfl) ?_
  refine pw_call (m' := 239) (As := [pw_i ch]) (rest := []) (ls'' := [some (pw_i ch)]) (Nat.le_trans (by decide) hd) E rfl (fun _ => pw_iS rfl rfl rfl) (rfl : pm_ent 239 = some (1, 1, 12, 1, pmc_239)) rfl rfl (cm_239 (pw_dp hd (by decide)) I (ch) (by omega) (by omega)) ?_
  rintro u2 v1 ⟨rfl, x3, rfl, hx3a, hx3b⟩
  refine ⟨_, rfl, ?_⟩
  show pw X d h 240 4 [some (pw_i ch)] [pw_i x3] _
  refine pw_if E (pc' := 14) rfl (by decide) (by omega) (by omega) ?_ ?_
  · intro hc4
    change x3 = (0 : Int) at hc4
    refine pw_ld E (pc' := 15) (st' := [pw_i ch]) rfl (fun _ => rfl) ?_
    refine pw_bip E (pc' := 17) rfl rfl (by decide) ?_
    refine pw_sub E (pc' := 18) rfl rfl ?_
    refine pw_nm (fun x5 hx5a hx5b => ?_)
    refine pw_iret E rfl ?_
    exact ⟨rfl, ⟨_, rfl, by omega, by omega⟩⟩
  · intro hc6
    change ¬ (x3 = (0 : Int)) at hc6
    refine pw_ld E (pc' := 8) (st' := [pw_i ch]) rfl (fun _ => rfl) ?_
    refine pw_bip E (pc' := 10) rfl rfl (by decide) ?_
    refine pw_sub E (pc' := 11) rfl rfl ?_
    refine pw_nm (fun x7 hx7a hx7b => ?_)
    refine pw_goto E (pc' := 18) rfl (by decide) ?_
    refine pw_iret E rfl ?_
    exact ⟨rfl, ⟨_, rfl, by omega, by omega⟩⟩
end
section
/-! what waits in a Reader: the ranks rise strictly between entries of rank 0 (not, an open bracket), of which there are at most five -/
def pw_rk (x : Int) : Int := if x ≤ 0 then 0 else if x ≤ 2 then 1 else if x ≤ 4 then 2 else if x ≤ 6 then 3 else if x = 7 then 4 else 0
def pw_r0 (w : Nat → Int) : Nat → Nat
  | 0 => 0
  | n + 1 => pw_r0 w n + (if 8 ≤ w n then 1 else 0)
def pw_o9 (w : Nat → Int) : Nat → Nat
  | 0 => 0
  | n + 1 => pw_o9 w n + (if w n = 9 then 1 else 0)
def pw_Jw (w : Nat → Int) (n : Nat) (dp op : Int) : Prop := (∀ j, j < n → 1 ≤ w j ∧ w j ≤ 9) ∧ (∀ j, j + 1 < n → 8 ≤ w (j + 1) ∨ pw_rk (w j) < pw_rk (w (j + 1))) ∧ (pw_r0 w n : Int) = dp ∧ op ≤ (pw_o9 w n : Int) ∧ dp ≤ 5
theorem pw_rk_le (x : Int) : 0 ≤ pw_rk x ∧ pw_rk x ≤ 4 := by
  unfold pw_rk
  split
  · omega
  · split
    · omega
    · split
      · omega
      · split
        · omega
        · split <;> omega
theorem pw_rk8 {x : Int} (h : 8 ≤ x) : pw_rk x = 0 := by
  unfold pw_rk
  rw [if_neg (by omega), if_neg (by omega), if_neg (by omega), if_neg (by omega), if_neg (by omega)]
theorem pw_rk1 {x : Int} (h1 : 1 ≤ x) (h8 : ¬ 8 ≤ x) : 1 ≤ pw_rk x := by
  unfold pw_rk
  rw [if_neg (by omega)]
  split
  · omega
  · split
    · omega
    · split
      · omega
      · rw [if_pos (by omega)]; omega
theorem pw_Jle {w : Nat → Int} : ∀ n : Nat, (∀ j, j < n → 1 ≤ w j) → (∀ j, j + 1 < n → 8 ≤ w (j + 1) ∨ pw_rk (w j) < pw_rk (w (j + 1))) → (n : Int) ≤ 5 * (pw_r0 w n : Int) + 4 ∧ ∀ k, n = k + 1 → (n : Int) ≤ 5 * (pw_r0 w n : Int) + pw_rk (w k)
  | 0, _, _ => ⟨by show (0 : Int) ≤ 5 * ((0 : Nat) : Int) + 4; omega, fun k hk => by omega⟩
  | n + 1, ha, h => by
    obtain ⟨h1, h2⟩ := pw_Jle n (fun j hj => ha j (by omega)) (fun j hj => h j (by omega))
    have hr := pw_rk_le (w n)
    have key : ((n + 1 : Nat) : Int) ≤ 5 * (pw_r0 w (n + 1) : Int) + pw_rk (w n) := by
      show ((n + 1 : Nat) : Int) ≤ 5 * ((pw_r0 w n + (if 8 ≤ w n then 1 else 0) : Nat) : Int) + pw_rk (w n)
      by_cases h8 : 8 ≤ w n
      · rw [if_pos h8]
        omega
      · rw [if_neg h8]
        cases n with
        | zero =>
          have h0 := pw_rk1 (ha 0 (by omega)) h8
          omega
        | succ k =>
          have h3 := h2 k rfl
          have h4 := (h k (by omega)).resolve_left h8
          omega
    refine ⟨by omega, fun k hk => ?_⟩
    have : k = n := by omega
    subst this
    exact key
theorem pw_Jw.le {w : Nat → Int} {n : Nat} {dp op : Int} (h : pw_Jw w n dp op) : (n : Int) ≤ 29 := by
  have h1 := (pw_Jle n (fun j hj => (h.1 j hj).1) h.2.1).1
  have h3 := h.2.2.1
  have h5 := h.2.2.2.2
  omega
theorem pw_o9_le (w : Nat → Int) : ∀ n, pw_o9 w n ≤ n
  | 0 => Nat.le_refl 0
  | n + 1 => by
    have := pw_o9_le w n
    show pw_o9 w n + (if w n = 9 then 1 else 0) ≤ n + 1
    split <;> omega
theorem pw_Jw.pos {w : Nat → Int} {n : Nat} {dp op : Int} (h : pw_Jw w n dp op) (ho : 0 < op) : 0 < n := by
  have h1 := pw_o9_le w n
  have h2 := h.2.2.2.1
  omega
theorem pw_r0_congr {w w' : Nat → Int} : ∀ n, (∀ j, j < n → w' j = w j) → pw_r0 w' n = pw_r0 w n ∧ pw_o9 w' n = pw_o9 w n
  | 0, _ => ⟨rfl, rfl⟩
  | n + 1, h => by
    obtain ⟨h1, h2⟩ := pw_r0_congr n (fun j hj => h j (by omega))
    refine ⟨?_, ?_⟩
    · show pw_r0 w' n + (if 8 ≤ w' n then 1 else 0) = pw_r0 w n + (if 8 ≤ w n then 1 else 0)
      rw [h1, h n (by omega)]
    · show pw_o9 w' n + (if w' n = 9 then 1 else 0) = pw_o9 w n + (if w n = 9 then 1 else 0)
      rw [h2, h n (by omega)]
theorem pw_Jw.congr {w w' : Nat → Int} {n : Nat} {dp op : Int} (h : pw_Jw w n dp op) (hw : ∀ j, j < n → w' j = w j) : pw_Jw w' n dp op := by
  obtain ⟨h1, h2, h3, h4, h5⟩ := h
  obtain ⟨e1, e2⟩ := pw_r0_congr n hw
  refine ⟨fun j hj => by rw [hw j hj]; exact h1 j hj, fun j hj => ?_, by rw [e1]; exact h3, by rw [e2]; exact h4, h5⟩
  rw [hw j (by omega), hw (j + 1) hj]
  exact h2 j hj
/-- the topmost goes -/
theorem pw_Jw.pop {w : Nat → Int} {n : Nat} {dp op : Int} (h : pw_Jw w (n + 1) dp op) : (w n < 8 → pw_Jw w n dp op) ∧ (w n = 8 → pw_Jw w n (dp - 1) op) ∧ (8 ≤ w n → pw_Jw w n (dp - 1) (op - 1)) := by
  obtain ⟨h1, h2, h3, h4, h5⟩ := h
  have h3 : ((pw_r0 w n + (if 8 ≤ w n then 1 else 0) : Nat) : Int) = dp := h3
  have h4 : op ≤ ((pw_o9 w n + (if w n = 9 then 1 else 0) : Nat) : Int) := h4
  have g1 : ∀ j, j < n → 1 ≤ w j ∧ w j ≤ 9 := fun j hj => h1 j (by omega)
  have g2 : ∀ j, j + 1 < n → 8 ≤ w (j + 1) ∨ pw_rk (w j) < pw_rk (w (j + 1)) := fun j hj => h2 j (by omega)
  refine ⟨fun hw => ?_, fun hw => ?_, fun hw => ?_⟩
  · rw [if_neg (by omega)] at h3
    rw [if_neg (by omega)] at h4
    exact ⟨g1, g2, by omega, by omega, h5⟩
  · rw [if_pos (by omega)] at h3
    rw [if_neg (by omega)] at h4
    exact ⟨g1, g2, by omega, by omega, by omega⟩
  · rw [if_pos hw] at h3
    refine ⟨g1, g2, by omega, ?_, by omega⟩
    split at h4 <;> omega
/-- one more -/
theorem pw_Jw.push {w w' : Nat → Int} {n : Nat} {dp op x : Int} (h : pw_Jw w n dp op) (hw : ∀ j, j < n → w' j = w j) (hx : w' n = x) (h1 : 1 ≤ x) (h9 : x ≤ 9) (hr : 8 ≤ x ∨ ∀ k, n = k + 1 → pw_rk (w k) < pw_rk x) (hd : 8 ≤ x → dp ≤ 4) : pw_Jw w' (n + 1) (dp + if 8 ≤ x then 1 else 0) (op + if x = 9 then 1 else 0) := by
  obtain ⟨g1, g2, g3, g4, g5⟩ := h.congr hw
  refine ⟨fun j hj => ?_, fun j hj => ?_, ?_, ?_, ?_⟩
  · by_cases hj2 : j = n
    · subst hj2; rw [hx]; exact ⟨h1, h9⟩
    · exact g1 j (by omega)
  · by_cases hj2 : j + 1 = n
    · rw [hj2, hx, hw j (by omega)]
      rcases hr with hr | hr
      · exact Or.inl hr
      · exact Or.inr (hr j hj2.symm)
    · exact g2 j (by omega)
  · show ((pw_r0 w' n + (if 8 ≤ w' n then 1 else 0) : Nat) : Int) = _
    rw [hx]
    split <;> omega
  · show _ ≤ ((pw_o9 w' n + (if w' n = 9 then 1 else 0) : Nat) : Int)
    rw [hx]
    split <;> omega
  · split
    · have := hd (by assumption); omega
    · omega
theorem pw_Jw0 (w : Nat → Int) : pw_Jw w 0 0 0 := ⟨fun j hj => by omega, fun j hj => by omega, rfl, by show (0 : Int) ≤ ((0 : Nat) : Int); omega, by omega⟩
end
section
/-! a run under less of X is a run under more -/
def pm_ms (f : pm_S) : Prop := ∀ (K K' : Nat → pm_L → List Value → pm_R), (∀ q ls st o, K q ls st = some o → K' q ls st = some o) → ∀ (pc len : Nat) (ls : pm_L) (st : List Value) (o : pm_H × (Option Value ⊕ Unit)), f K pc len ls st = some o → f K' pc len ls st = some o
theorem pm_cnd_m {b : Bool} {A B A' B' : pm_R} {o : pm_H × (Option Value ⊕ Unit)} (h1 : A = some o → A' = some o) (h2 : B = some o → B' = some o) (h : cond b A B = some o) : cond b A' B' = some o := by
  cases b with
  | true => exact h1 h
  | false => exact h2 h
theorem pm_nn {A : pm_R} {o : pm_H × (Option Value ⊕ Unit)} (h : (none : pm_R) = some o) : A = some o := nomatch h
theorem pm_fn_m {n : Nat} {K K' : Nat → pm_R} {o : pm_H × (Option Value ⊕ Unit)} (hK : ∀ q, K q = some o → K' q = some o) (h : pm_fn n K = some o) : pm_fn n K' = some o := by
  rw [pm_fn_eq] at h ⊢
  exact hK _ h
theorem pm_fi_m {n : Int32} {K K' : Int32 → pm_R} {o : pm_H × (Option Value ⊕ Unit)} (hK : ∀ q, K q = some o → K' q = some o) (h : pm_fi n K = some o) : pm_fi n K' = some o := by
  rw [pm_fi_eq] at h ⊢
  exact hK _ h
theorem pm_fl_m {n : Int64} {K K' : Int64 → pm_R} {o : pm_H × (Option Value ⊕ Unit)} (hK : ∀ q, K q = some o → K' q = some o) (h : pm_fl n K = some o) : pm_fl n K' = some o := by
  rw [pm_fl_eq] at h ⊢
  exact hK _ h
theorem pm_to_m {z : Int} {K K' : Nat → pm_R} {o : pm_H × (Option Value ⊕ Unit)} (hK : ∀ q, K q = some o → K' q = some o) (h : pm_to z K = some o) : pm_to z K' = some o := by
  unfold pm_to at h ⊢
  cases z with
  | ofNat t => exact pm_fn_m hK h
  | negSucc t => exact pm_nn h
theorem pm_mC (v : Value) : pm_ms (pm_sC v) := by
  intro K K' hK pc len ls st o h
  unfold pm_sC at h ⊢
  exact (pm_fn_m fun q => hK _ _ _ _) h
theorem pm_mIld (k : Nat) : pm_ms (pm_sIld k) := by
  intro K K' hK pc len ls st o h
  unfold pm_sIld at h ⊢
  split at h
  · exact (pm_fn_m fun q => hK _ _ _ _) h
  · exact pm_nn h
theorem pm_mLld (k : Nat) : pm_ms (pm_sLld k) := by
  intro K K' hK pc len ls st o h
  unfold pm_sLld at h ⊢
  split at h
  · exact (pm_fn_m fun q => hK _ _ _ _) h
  · exact pm_nn h
theorem pm_mAld (k : Nat) : pm_ms (pm_sAld k) := by
  intro K K' hK pc len ls st o h
  unfold pm_sAld at h ⊢
  split at h
  · exact (pm_fn_m fun q => hK _ _ _ _) h
  · exact pm_nn h
theorem pm_mIst (k : Nat) : pm_ms (pm_sIst k) := by
  intro K K' hK pc len ls st o h
  unfold pm_sIst at h ⊢
  split at h
  · exact pm_cnd_m (pm_fi_m fun y => pm_fn_m fun q => hK _ _ _ _) pm_nn h
  · exact pm_nn h
theorem pm_mLst (k : Nat) : pm_ms (pm_sLst k) := by
  intro K K' hK pc len ls st o h
  unfold pm_sLst at h ⊢
  split at h
  · exact pm_cnd_m (pm_fl_m fun y => pm_fn_m fun q => hK _ _ _ _) pm_nn h
  · exact pm_nn h
theorem pm_mAst (k : Nat) : pm_ms (pm_sAst k) := by
  intro K K' hK pc len ls st o h
  unfold pm_sAst at h ⊢
  split at h
  · exact pm_cnd_m (pm_fn_m fun q => hK _ _ _ _) pm_nn h
  · exact pm_nn h
theorem pm_mInc (k : Nat) (n : Int) : pm_ms (pm_sInc k n) := by
  intro K K' hK pc len ls st o h
  unfold pm_sInc at h ⊢
  split at h
  · exact pm_cnd_m (pm_fi_m fun y => pm_fn_m fun q => hK _ _ _ _) pm_nn h
  · exact pm_nn h
theorem pm_mII (f : Int32 → Int32 → Int32) : pm_ms (pm_sII f) := by
  intro K K' hK pc len ls st o h
  unfold pm_sII at h ⊢
  split at h
  · exact (pm_fn_m fun q => hK _ _ _ _) h
  · exact pm_nn h
theorem pm_mI (f : Int32 → Int32) : pm_ms (pm_sI f) := by
  intro K K' hK pc len ls st o h
  unfold pm_sI at h ⊢
  split at h
  · exact (pm_fn_m fun q => hK _ _ _ _) h
  · exact pm_nn h
theorem pm_mLL (f : Int64 → Int64 → Int64) : pm_ms (pm_sLL f) := by
  intro K K' hK pc len ls st o h
  unfold pm_sLL at h ⊢
  split at h
  · exact (pm_fn_m fun q => hK _ _ _ _) h
  · exact pm_nn h
theorem pm_mLI (f : Int64 → Int32 → Int64) : pm_ms (pm_sLI f) := by
  intro K K' hK pc len ls st o h
  unfold pm_sLI at h ⊢
  split at h
  · exact (pm_fn_m fun q => hK _ _ _ _) h
  · exact pm_nn h
theorem pm_mL (f : Int64 → Int64) : pm_ms (pm_sL f) := by
  intro K K' hK pc len ls st o h
  unfold pm_sL at h ⊢
  split at h
  · exact (pm_fn_m fun q => hK _ _ _ _) h
  · exact pm_nn h
theorem pm_mIL (f : Int32 → Int64) : pm_ms (pm_sIL f) := by
  intro K K' hK pc len ls st o h
  unfold pm_sIL at h ⊢
  split at h
  · exact (pm_fn_m fun q => hK _ _ _ _) h
  · exact pm_nn h
theorem pm_mLi (f : Int64 → Int32) : pm_ms (pm_sLi f) := by
  intro K K' hK pc len ls st o h
  unfold pm_sLi at h ⊢
  split at h
  · exact (pm_fn_m fun q => hK _ _ _ _) h
  · exact pm_nn h
theorem pm_mIIz (f : Int32 → Int32 → Int32) : pm_ms (pm_sIIz f) := by
  intro K K' hK pc len ls st o h
  unfold pm_sIIz at h ⊢
  split at h
  · exact pm_cnd_m pm_nn (pm_fn_m fun q => hK _ _ _ _) h
  · exact pm_nn h
theorem pm_mLLz (f : Int64 → Int64 → Int64) : pm_ms (pm_sLLz f) := by
  intro K K' hK pc len ls st o h
  unfold pm_sLLz at h ⊢
  split at h
  · exact pm_cnd_m pm_nn (pm_fn_m fun q => hK _ _ _ _) h
  · exact pm_nn h
theorem pm_mCmp : pm_ms (pm_sCmp) := by
  intro K K' hK pc len ls st o h
  unfold pm_sCmp at h ⊢
  split at h
  · exact (pm_fn_m fun q => hK _ _ _ _) h
  · exact pm_nn h
theorem pm_mDup : pm_ms (pm_sDup) := by
  intro K K' hK pc len ls st o h
  unfold pm_sDup at h ⊢
  split at h
  · exact pm_cnd_m (pm_fn_m fun q => hK _ _ _ _) pm_nn h
  · exact pm_nn h
theorem pm_mPop : pm_ms (pm_sPop) := by
  intro K K' hK pc len ls st o h
  unfold pm_sPop at h ⊢
  split at h
  · exact pm_cnd_m (pm_fn_m fun q => hK _ _ _ _) pm_nn h
  · exact pm_nn h
theorem pm_mPop2 : pm_ms (pm_sPop2) := by
  intro K K' hK pc len ls st o h
  unfold pm_sPop2 at h ⊢
  split at h
  · exact pm_cnd_m (pm_fn_m fun q => hK _ _ _ _) pm_nn h
  · exact pm_nn h
theorem pm_mIf (c : ClassFile.Cond) (off : Int) : pm_ms (pm_sIf c off) := by
  intro K K' hK pc len ls st o h
  unfold pm_sIf at h ⊢
  split at h
  · exact pm_to_m (fun t => pm_cnd_m (hK _ _ _ _) (pm_fn_m fun q => hK _ _ _ _)) h
  · exact pm_nn h
theorem pm_mIf2 (c : ClassFile.Cond) (off : Int) : pm_ms (pm_sIf2 c off) := by
  intro K K' hK pc len ls st o h
  unfold pm_sIf2 at h ⊢
  split at h
  · exact pm_to_m (fun t => pm_cnd_m (hK _ _ _ _) (pm_fn_m fun q => hK _ _ _ _)) h
  · exact pm_nn h
theorem pm_mGo (off : Int) : pm_ms (pm_sGo off) := by
  intro K K' hK pc len ls st o h
  unfold pm_sGo at h ⊢
  exact pm_to_m (fun t => hK _ _ _ _) h
theorem pm_tsw_m {x lo hi dflt : Int} {offs : Array Int} {K K' : Int → pm_R} {o : pm_H × (Option Value ⊕ Unit)} (hK : ∀ q, K q = some o → K' q = some o) (h : pm_tsw x lo hi dflt offs K = some o) : pm_tsw x lo hi dflt offs K' = some o := by
  unfold pm_tsw at h ⊢
  by_cases hc : x < lo ∨ hi < x
  · rw [if_pos hc] at h ⊢
    exact hK _ h
  · rw [if_neg hc] at h ⊢
    split at h
    · exact hK _ h
    · exact pm_nn h
theorem pm_mTsw (d : Int) (lo : Int) (hi : Int) (offs : Array Int) : pm_ms (pm_sTsw d lo hi offs) := by
  intro K K' hK pc len ls st o h
  unfold pm_sTsw at h ⊢
  split at h
  · exact pm_tsw_m (fun t => pm_to_m fun u => hK _ _ _ _) h
  · exact pm_nn h
theorem pm_mLsw (d : Int) (ps : Array (Int × Int)) : pm_ms (pm_sLsw d ps) := by
  intro K K' hK pc len ls st o h
  unfold pm_sLsw at h ⊢
  split at h
  · exact pm_cnd_m (pm_to_m fun u => hK _ _ _ _) pm_nn h
  · exact pm_nn h
def pm_lei (ih ih' : pm_I) : Prop := ∀ d h m pc ls st o, ih d h m pc ls st = some o → ih' d h m pc ls st = some o
def pm_mg (g g' : pm_G) : Prop := ∀ (ih ih' : pm_I), pm_lei ih ih' → ∀ (d : Nat) (h : pm_H) (m own pc len : Nat) (ls : pm_L) (st : List Value) (o : pm_H × (Option Value ⊕ Unit)), g ih d h m own pc len ls st = some o → g' ih' d h m own pc len ls st = some o
theorem pm_mLift {f : pm_S} (hf : pm_ms f) : pm_mg (pm_lift f) (pm_lift f) := fun ih ih' hi d h m own pc len ls st o hr => hf _ _ (fun q ls st o => hi d h m q ls st o) pc len ls st o hr
/-- the same but for the script's place, which can't be read there -/
def pm_leX (X X' : List (Nat × List Value)) : Prop := (∀ a : Nat, a ≠ 0 → X'[a]? = X[a]?) ∧ X[0]? = some (99, [])
theorem pm_leX.row {X X' : List (Nat × List Value)} (hX : pm_leX X X') {h : pm_H} {a : Nat} {q : Nat × List Value} (hr : pm_row X h a = some q) : pm_row X' h a = some q := by
  unfold pm_row at hr ⊢
  refine Eq.trans ?_ hr
  cases hb : Nat.blt a 16 with
  | false => rfl
  | true =>
    rw [hb, cond_true] at hr
    rw [cond_true, cond_true, pm_nth_eq, pm_nth_eq]
    by_cases h0 : a = 0
    · subst h0
      rw [pm_nth_eq, hX.2] at hr
      cases hr
    · rw [hX.1 a h0]
theorem pm_leX.sx {X X' : List (Nat × List Value)} (hX : pm_leX X X') (a : Nat) : pm_sx X' a = pm_sx X a := by
  unfold pm_sx
  cases hb : (Nat.ble 4 a && Nat.blt a 12) with
  | false => rfl
  | true =>
    rw [Bool.and_eq_true] at hb
    have := Nat.le_of_ble_eq_true hb.1
    rw [cond_true, cond_true, pm_nth_eq, pm_nth_eq, hX.1 a (by omega)]
theorem pm_mgLdc (ix : Nat) : pm_mg (pm_gLdc ix) (pm_gLdc ix) := by
  intro ih ih' hi d h m own pc len ls st o hr
  unfold pm_gLdc at hr ⊢
  split at hr
  · exact (pm_fn_m fun q => hi _ _ _ _ _ _ _) hr
  · exact (pm_fn_m fun q => hi _ _ _ _ _ _ _) hr
  · exact pm_nn hr
theorem pm_mgLdw (ix : Nat) : pm_mg (pm_gLdw ix) (pm_gLdw ix) := by
  intro ih ih' hi d h m own pc len ls st o hr
  unfold pm_gLdw at hr ⊢
  split at hr
  · exact (pm_fn_m fun q => hi _ _ _ _ _ _ _) hr
  · exact pm_nn hr
theorem pm_mgLd2 (ix : Nat) : pm_mg (pm_gLd2 ix) (pm_gLd2 ix) := by
  intro ih ih' hi d h m own pc len ls st o hr
  unfold pm_gLd2 at hr ⊢
  split at hr
  · exact (pm_fn_m fun q => hi _ _ _ _ _ _ _) hr
  · exact pm_nn hr
theorem pm_mgSta (ix : Nat) : pm_mg (pm_gSta ix) (pm_gSta ix) := by
  intro ih ih' hi d h m own pc len ls st o hr
  unfold pm_gSta at hr ⊢
  split at hr
  · exact (pm_fn_m fun q => hi _ _ _ _ _ _ _) hr
  · exact pm_nn hr
theorem pm_mgGet (ix : Nat) : pm_mg (pm_gGet ix) (pm_gGet ix) := by
  intro ih ih' hi d h m own pc len ls st o hr
  unfold pm_gGet at hr ⊢
  split at hr
  · split at hr
    · refine pm_cnd_m (fun hr => ?_) pm_nn hr
      split at hr
      · exact (pm_fn_m fun q => hi _ _ _ _ _ _ _) hr
      · exact pm_nn hr
    · exact pm_nn hr
  · exact pm_nn hr
theorem pm_fv_m {n : Value} {K K' : Value → pm_R} {o : pm_H × (Option Value ⊕ Unit)} (hK : ∀ q, K q = some o → K' q = some o) (h : pm_fv n K = some o) : pm_fv n K' = some o := by
  rw [pm_fv_eq] at h ⊢
  exact hK _ h
theorem pm_mgPut (ix : Nat) : pm_mg (pm_gPut ix) (pm_gPut ix) := by
  intro ih ih' hi d h m own pc len ls st o hr
  unfold pm_gPut at hr ⊢
  split at hr
  · split at hr
    · exact pm_cnd_m (pm_cnd_m (pm_cnd_m (pm_fv_m fun v => pm_fn_m fun q => hi _ _ _ _ _ _ _) pm_nn) pm_nn) pm_nn hr
    · exact pm_nn hr
  · exact pm_nn hr
theorem pm_mgNew {X X' : List (Nat × List Value)} (hX : pm_leX X X') (ix : Nat) : pm_mg (pm_gNew X ix) (pm_gNew X' ix) := by
  intro ih ih' hi d h m own pc len ls st o hr
  unfold pm_gNew at hr ⊢
  split at hr
  · rw [pm_nth_eq] at hr ⊢
    rw [hX.1 _ (by omega)]
    split at hr
    · exact pm_cnd_m (pm_fn_m fun z => pm_fn_m fun q => hi _ _ _ _ _ _ _) pm_nn hr
    · exact pm_nn hr
  · exact hr
  · exact pm_nn hr
theorem pm_mgNwa (t : ArrayType) : pm_mg (pm_gNwa t) (pm_gNwa t) := by
  intro ih ih' hi d h m own pc len ls st o hr
  unfold pm_gNwa at hr ⊢
  split at hr
  · exact pm_cnd_m pm_nn (pm_cnd_m (pm_cnd_m (pm_fn_m fun z => pm_fn_m fun q => hi _ _ _ _ _ _ _) pm_nn) pm_nn) hr
  · exact pm_nn hr
theorem pm_mgAnw (ix : Nat) : pm_mg (pm_gAnw ix) (pm_gAnw ix) := by
  intro ih ih' hi d h m own pc len ls st o hr
  unfold pm_gAnw at hr ⊢
  split at hr
  · exact pm_cnd_m pm_nn (pm_cnd_m (pm_fn_m fun z => pm_fn_m fun q => hi _ _ _ _ _ _ _) pm_nn) hr
  · exact pm_nn hr
theorem pm_mgLen {X X' : List (Nat × List Value)} (hX : pm_leX X X') : pm_mg (pm_gLen X) (pm_gLen X') := by
  intro ih ih' hi d h m own pc len ls st o hr
  unfold pm_gLen at hr ⊢
  split at hr
  · split at hr
    · rename_i hrow
      rw [hX.row hrow]
      exact pm_cnd_m (pm_fn_m fun z => pm_fn_m fun q => hi _ _ _ _ _ _ _) pm_nn hr
    · exact pm_nn hr
  · exact pm_nn hr
theorem pm_mgAld {X X' : List (Nat × List Value)} (hX : pm_leX X X') (t : Nat) (t1 : Nat) : pm_mg (pm_gAld X t t1) (pm_gAld X' t t1) := by
  intro ih ih' hi d h m own pc len ls st o hr
  unfold pm_gAld at hr ⊢
  split at hr
  · split at hr
    · rename_i hrow
      rw [hX.row hrow]
      refine pm_cnd_m (pm_cnd_m pm_nn fun hr => ?_) pm_nn hr
      split at hr
      · exact (pm_fn_m fun q => hi _ _ _ _ _ _ _) hr
      · exact pm_nn hr
    · exact pm_nn hr
  · exact pm_nn hr
theorem pm_mgLald {X X' : List (Nat × List Value)} (hX : pm_leX X X') : pm_mg (pm_gLald X) (pm_gLald X') := by
  intro ih ih' hi d h m own pc len ls st o hr
  unfold pm_gLald at hr ⊢
  split at hr
  · split at hr
    · rename_i hrow
      rw [hX.row hrow]
      refine pm_cnd_m (pm_cnd_m pm_nn fun hr => ?_) pm_nn hr
      split at hr
      · exact (pm_fn_m fun q => hi _ _ _ _ _ _ _) hr
      · exact pm_nn hr
    · exact pm_nn hr
  · exact pm_nn hr
theorem pm_mgAald : pm_mg (pm_gAald) (pm_gAald) := by
  intro ih ih' hi d h m own pc len ls st o hr
  unfold pm_gAald at hr ⊢
  split at hr
  · split at hr
    · refine pm_cnd_m (pm_cnd_m pm_nn fun hr => ?_) pm_nn hr
      split at hr
      · exact (pm_fn_m fun q => hi _ _ _ _ _ _ _) hr
      · exact pm_nn hr
    · exact pm_nn hr
  · exact pm_nn hr
theorem pm_mgIst (t : Nat) (f : Int32 → Int32) : pm_mg (pm_gIst t f) (pm_gIst t f) := by
  intro ih ih' hi d h m own pc len ls st o hr
  unfold pm_gIst at hr ⊢
  split at hr
  · split at hr
    · exact pm_cnd_m (pm_cnd_m (pm_fi_m fun y => pm_fn_m fun q => hi _ _ _ _ _ _ _) pm_nn) pm_nn hr
    · exact pm_nn hr
  · exact pm_nn hr
theorem pm_mgLst : pm_mg (pm_gLst) (pm_gLst) := by
  intro ih ih' hi d h m own pc len ls st o hr
  unfold pm_gLst at hr ⊢
  split at hr
  · split at hr
    · exact pm_cnd_m (pm_cnd_m (pm_fl_m fun y => pm_fn_m fun q => hi _ _ _ _ _ _ _) pm_nn) pm_nn hr
    · exact pm_nn hr
  · exact pm_nn hr
theorem pm_mgAst : pm_mg (pm_gAst) (pm_gAst) := by
  intro ih ih' hi d h m own pc len ls st o hr
  unfold pm_gAst at hr ⊢
  split at hr
  · split at hr
    · exact pm_cnd_m (pm_cnd_m (pm_fn_m fun q => hi _ _ _ _ _ _ _) pm_nn) pm_nn hr
    · exact pm_nn hr
  · exact pm_nn hr
theorem pm_mgRet (lo : Nat) (hi : Nat) : pm_mg (pm_gRet lo hi) (pm_gRet lo hi) := by
  intro ih ih' hii d h m own pc len ls st o hr
  unfold pm_gRet at hr ⊢
  exact hr
theorem pm_mgRtv : pm_mg (pm_gRtv) (pm_gRtv) := by
  intro ih ih' hi d h m own pc len ls st o hr
  unfold pm_gRtv at hr ⊢
  exact hr
theorem pm_mPrim {X X' : List (Nat × List Value)} (hX : pm_leX X X') {f : Nat} {K K' : pm_H → List Value → pm_R} {h : pm_H} {st : List Value} {o : pm_H × (Option Value ⊕ Unit)} (hK : ∀ h1 st1, K h1 st1 = some o → K' h1 st1 = some o) (hr : pm_prim X f K h st = some o) : pm_prim X' f K' h st = some o := by
  unfold pm_prim at hr ⊢
  split at hr
  · unfold pm_p0 at hr ⊢
    split at hr
    · exact hK _ _ hr
    · exact pm_nn hr
  · unfold pm_p1 at hr ⊢
    split at hr
    · exact hK _ _ hr
    · exact pm_nn hr
  · unfold pm_p2 at hr ⊢
    split at hr
    · exact hK _ _ hr
    · exact pm_nn hr
  · unfold pm_p3 at hr ⊢
    split at hr
    · exact hK _ _ hr
    · exact pm_nn hr
  · unfold pm_p4 at hr ⊢
    split at hr
    · exact hK _ _ hr
    · exact pm_nn hr
  · unfold pm_p5 at hr ⊢
    split at hr
    · split at hr
      · rename_i hrow hc
        rw [hX.row hrow, hc]
        exact pm_cnd_m (hK _ _) pm_nn hr
      · exact pm_nn hr
    · exact pm_nn hr
  · unfold pm_p6 at hr ⊢
    split at hr
    · split at hr
      · exact pm_cnd_m (hK _ _) pm_nn hr
      · exact pm_nn hr
    · exact pm_nn hr
  · exact pm_nn hr
theorem pm_mStr {X X' : List (Nat × List Value)} (hX : pm_leX X X') {f : Nat} {K K' : pm_H → List Value → pm_R} {h : pm_H} {st : List Value} {o : pm_H × (Option Value ⊕ Unit)} (hK : ∀ h1 st1, K h1 st1 = some o → K' h1 st1 = some o) (hr : pm_str X f K h st = some o) : pm_str X' f K' h st = some o := by
  unfold pm_str at hr ⊢
  split at hr
  · unfold pm_t7 at hr ⊢
    split at hr
    · rw [hX.sx]
      split at hr
      · exact pm_fn_m (fun q => hK _ _) hr
      · exact pm_nn hr
    · exact pm_nn hr
  · unfold pm_t8 at hr ⊢
    split at hr
    · rw [hX.sx]
      split at hr
      · refine pm_cnd_m pm_nn (fun hr => ?_) hr
        split at hr
        · exact hK _ _ hr
        · exact pm_nn hr
      · exact pm_nn hr
    · exact pm_nn hr
  · unfold pm_t9 at hr ⊢
    split at hr
    · rw [hX.sx]
      split at hr
      · exact hK _ _ hr
      · exact pm_nn hr
    · exact pm_nn hr
  · exact pm_nn hr
theorem pm_mCall {ih ih' : pm_I} (hi : pm_lei ih ih') {d : Nat} {h : pm_H} {m pc : Nat} {ls : pm_L} {m' : Nat} {As rest : List Value} {hnd : Bool} {o : pm_H × (Option Value ⊕ Unit)} (hr : pm_call ih d h m pc ls m' As rest hnd = some o) : pm_call ih' d h m pc ls m' As rest hnd = some o := by
  unfold pm_call at hr ⊢
  split at hr
  · exact pm_nn hr
  · split at hr
    · exact pm_nn hr
    · refine pm_cnd_m (fun hr => ?_) pm_nn hr
      split at hr
      · rename_i hrun
        rw [hi _ _ _ _ _ _ _ hrun]
        exact pm_fn_m (fun q => hi _ _ _ _ _ _ _) hr
      · rename_i hrun
        rw [hi _ _ _ _ _ _ _ hrun]
        exact hr
      · exact pm_nn hr
theorem pm_mgInv {X X' : List (Nat × List Value)} (hX : pm_leX X X') (how ix : Nat) : pm_mg (pm_gInv X how ix) (pm_gInv X' how ix) := by
  intro ih ih' hi d h m own pc len ls st o hr
  unfold pm_gInv at hr ⊢
  split at hr
  · refine pm_cnd_m (pm_cnd_m (pm_mPrim hX fun h1 st1 => pm_cnd_m (pm_fn_m fun q => hi _ _ _ _ _ _ _) pm_nn) pm_nn) (pm_cnd_m (pm_cnd_m (pm_mStr hX fun h1 st1 => pm_cnd_m (pm_fn_m fun q => hi _ _ _ _ _ _ _) pm_nn) pm_nn) fun hr => ?_) hr
    split at hr
    · refine pm_cnd_m (pm_cnd_m (fun hr => ?_) (pm_cnd_m (pm_cnd_m (pm_mCall hi) pm_nn) pm_nn)) pm_nn hr
      unfold pm_gC at hr ⊢
      split at hr
      · split at hr
        · split at hr
          · exact pm_cnd_m (pm_mCall hi) pm_nn hr
          · exact pm_nn hr
        · exact pm_nn hr
      · exact pm_mCall hi hr
      · split at hr
        · exact pm_mCall hi hr
        · exact pm_nn hr
      · exact pm_nn hr
    · exact pm_nn hr
  · exact pm_nn hr
theorem pm_mDsp {X X' : List (Nat × List Value)} (hX : pm_leX X X') (i : Instr) : pm_mg (pm_dsp X i) (pm_dsp X' i) := by
  cases i with
  | iconst n => exact pm_mLift (pm_mC _)
  | bipush n => exact pm_mLift (pm_mC _)
  | sipush n => exact pm_mLift (pm_mC _)
  | lconst n => exact pm_mLift (pm_mC _)
  | aload k => exact pm_mLift (pm_mAld _)
  | aload_n k => exact pm_mLift (pm_mAld _)
  | iload k => exact pm_mLift (pm_mIld _)
  | iload_n k => exact pm_mLift (pm_mIld _)
  | lload k => exact pm_mLift (pm_mLld _)
  | lload_n k => exact pm_mLift (pm_mLld _)
  | astore k => exact pm_mLift (pm_mAst _)
  | astore_n k => exact pm_mLift (pm_mAst _)
  | istore k => exact pm_mLift (pm_mIst _)
  | istore_n k => exact pm_mLift (pm_mIst _)
  | lstore k => exact pm_mLift (pm_mLst _)
  | lstore_n k => exact pm_mLift (pm_mLst _)
  | iinc k n => exact pm_mLift (pm_mInc _ _)
  | iadd => exact pm_mLift (pm_mII _)
  | isub => exact pm_mLift (pm_mII _)
  | imul => exact pm_mLift (pm_mII _)
  | iand => exact pm_mLift (pm_mII _)
  | ior => exact pm_mLift (pm_mII _)
  | ishl => exact pm_mLift (pm_mII _)
  | ishr => exact pm_mLift (pm_mII _)
  | iushr => exact pm_mLift (pm_mII _)
  | idiv => exact pm_mLift (pm_mIIz _)
  | irem => exact pm_mLift (pm_mIIz _)
  | ineg => exact pm_mLift (pm_mI _)
  | i2b => exact pm_mLift (pm_mI _)
  | i2c => exact pm_mLift (pm_mI _)
  | ladd => exact pm_mLift (pm_mLL _)
  | lsub => exact pm_mLift (pm_mLL _)
  | lmul => exact pm_mLift (pm_mLL _)
  | land => exact pm_mLift (pm_mLL _)
  | lor => exact pm_mLift (pm_mLL _)
  | ldiv => exact pm_mLift (pm_mLLz _)
  | lrem => exact pm_mLift (pm_mLLz _)
  | lneg => exact pm_mLift (pm_mL _)
  | lshl => exact pm_mLift (pm_mLI _)
  | lshr => exact pm_mLift (pm_mLI _)
  | lushr => exact pm_mLift (pm_mLI _)
  | lcmp => exact pm_mLift pm_mCmp
  | i2l => exact pm_mLift (pm_mIL _)
  | l2i => exact pm_mLift (pm_mLi _)
  | dup => exact pm_mLift pm_mDup
  | pop => exact pm_mLift pm_mPop
  | pop2 => exact pm_mLift pm_mPop2
  | ifCond c off => exact pm_mLift (pm_mIf _ _)
  | if_icmp c off => exact pm_mLift (pm_mIf2 _ _)
  | goto off => exact pm_mLift (pm_mGo _)
  | tableswitch a b c2 d => exact pm_mLift (pm_mTsw _ _ _ _)
  | lookupswitch a b => exact pm_mLift (pm_mLsw _ _)
  | ldc ix => exact pm_mgLdc _
  | ldc_w ix => exact pm_mgLdw _
  | ldc2_w ix => exact pm_mgLd2 _
  | getstatic ix => exact pm_mgSta _
  | getfield ix => exact pm_mgGet _
  | putfield ix => exact pm_mgPut _
  | new ix => exact pm_mgNew hX _
  | newarray t => exact pm_mgNwa _
  | anewarray ix => exact pm_mgAnw _
  | arraylength => exact pm_mgLen hX
  | iaload => exact pm_mgAld hX _ _
  | baload => exact pm_mgAld hX _ _
  | caload => exact pm_mgAld hX _ _
  | laload => exact pm_mgLald hX
  | aaload => exact pm_mgAald
  | iastore => exact pm_mgIst _ _
  | bastore => exact pm_mgIst _ _
  | castore => exact pm_mgIst _ _
  | lastore => exact pm_mgLst
  | aastore => exact pm_mgAst
  | invokestatic ix => exact pm_mgInv hX _ _
  | invokevirtual ix => exact pm_mgInv hX _ _
  | invokespecial ix => exact pm_mgInv hX _ _
  | ireturn => exact pm_mgRet _ _
  | lreturn => exact pm_mgRet _ _
  | areturn => exact pm_mgRet _ _
  | return_ => exact pm_mgRtv
  | _ => exact fun _ _ _ _ _ _ _ _ _ _ _ _ hr => nomatch (show (none : pm_R) = some _ from hr)
theorem pm_mX {X X' : List (Nat × List Value)} (hX : pm_leX X X') : ∀ n, pm_lei (pm_x X n) (pm_x X' n)
  | 0 => fun d h m pc ls st o hr => nomatch (show (none : pm_R) = some o from hr)
  | n + 1 => fun d h m pc ls st o hr => by
    have hr : pm_F X (pm_x X n) d h m pc ls st = some o := hr
    show pm_F X' (pm_x X' n) d h m pc ls st = some o
    unfold pm_F at hr ⊢
    split at hr
    · exact pm_nn hr
    · split at hr
      · exact pm_nn hr
      · exact pm_mDsp hX _ _ _ (pm_mX hX n) _ _ _ _ _ _ _ _ _ hr
end
