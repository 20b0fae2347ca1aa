/-! contracts (printed by wip/tool/pwspec.py) -/
set_option maxHeartbeats 4000000 in
theorem cm_297 {X : List (Nat × List Value)} {d : Nat} {h : pm_H} (hd : 1 ≤ d) (I : pw_I h) (x : Int64) : pw X d h 297 0 [some (.long x), none] [] (fun h' v => h = h' ∧ ∃ a : Int, v = .inl (some (pw_i a)) ∧ (-1) ≤ a ∧ a ≤ 1) := by
  have E : pm_ent 297 = some (1, 2, 12, 0, pmc_297) := rfl
  refine pw_ld E (pc' := 1) (st' := [.long x]) rfl (fun _ => rfl) ?_
  refine pw_ld E (pc' := 2) (st' := [.long (Int64.ofInt 0), .long x]) rfl (fun _ => rfl) ?_
  refine pw_lcmp E (pc' := 3) rfl rfl (fun c1 hc1 => ?_)
  refine pw_if E (pc' := 10) rfl (by decide) (by omega) (by omega) ?_ ?_
  · intro hc2
    change (0 : Int) ≤ c1 at hc2
    refine pw_ld E (pc' := 11) (st' := [.long x]) rfl (fun _ => rfl) ?_
    refine pw_ld E (pc' := 12) (st' := [.long (Int64.ofInt 0), .long x]) rfl (fun _ => rfl) ?_
    refine pw_lcmp E (pc' := 13) rfl rfl (fun c3 hc3 => ?_)
    refine pw_if E (pc' := 20) rfl (by decide) (by omega) (by omega) ?_ ?_
    · intro hc4
      change c3 ≤ (0 : Int) at hc4
      refine pw_ld E (pc' := 21) (st' := [pw_i 0]) rfl (fun _ => rfl) ?_
      refine pw_iret E rfl ?_
      exact ⟨rfl, ⟨_, rfl, by omega, by omega⟩⟩
    · intro hc5
      change ¬ (c3 ≤ (0 : Int)) at hc5
      refine pw_ld E (pc' := 17) (st' := [pw_i 1]) rfl (fun _ => rfl) ?_
      refine pw_goto E (pc' := 21) rfl (by decide) ?_
      refine pw_iret E rfl ?_
      exact ⟨rfl, ⟨_, rfl, by omega, by omega⟩⟩
  · intro hc6
    change ¬ ((0 : Int) ≤ c1) at hc6
    refine pw_ld E (pc' := 7) (st' := [pw_i ((-1))]) rfl (fun _ => rfl) ?_
    refine pw_goto E (pc' := 21) rfl (by decide) ?_
    refine pw_iret E rfl ?_
    exact ⟨rfl, ⟨_, rfl, by omega, by omega⟩⟩
set_option maxHeartbeats 4000000 in
theorem cm_299_164 {X : List (Nat × List Value)} {d : Nat} {h : pm_H} (hd : 1 ≤ d) (I : pw_I h) (st : Int) (hst1 : (-2147483648) ≤ st) (hst2 : st ≤ 2147483647) : pw X d h 299 0 [some (.ref 180), some (pw_i st), none, none, none] [] (fun h' v => h = h' ∧ ∃ w : Int64, v = .inl (some (.long w))) := by
  have E : pm_ent 299 = some (2, 5, 12, 2, pmc_299) := rfl
  refine pw_ld E (pc' := 1) (st' := [.long (Int64.ofInt 0)]) rfl (fun _ => rfl) ?_
  refine pw_lstn E (pc' := 2) (ls' := [some (.ref 180), some (pw_i st), some (.long (Int64.ofInt 0)), none, none]) rfl rfl rfl rfl ?_
  refine pw_ld E (pc' := 3) (st' := [pw_i 0]) rfl (fun _ => rfl) ?_
  refine pw_ist E (pc' := 5) (ls' := [some (.ref 180), some (pw_i st), some (.long (Int64.ofInt 0)), none, some (pw_i 0)]) rfl rfl rfl rfl ?_
  have L5 : ∀ (n5 : Nat) (k5_2 : Int64) (k5_4 : Int), 0 ≤ k5_4 → k5_4 ≤ 9 → (9 - k5_4).toNat = n5 → pw X d h 299 5 [some (.ref 180), some (pw_i st), some (.long k5_2), none, some (pw_i k5_4)] [] (fun h' v => h = h' ∧ ∃ w : Int64, v = .inl (some (.long w))) := by
    intro n5
    induction n5 using Nat.strongRecOn with
    | ind n5 ih5 =>
      intro k5_2 k5_4 k5_4a k5_4b hm5
      refine pw_ld E (pc' := 7) (st' := [pw_i k5_4]) rfl (fun _ => rfl) ?_
      refine pw_bip E (pc' := 9) rfl rfl (by decide) ?_
      refine pw_if2 E (pc' := 40) rfl (by decide) (by omega) (by omega) (by decide) (by decide) ?_ ?_
      · intro hc1
        change (9 : Int) ≤ k5_4 at hc1
        refine pw_ld E (pc' := 41) (st' := [.long k5_2]) rfl (fun _ => rfl) ?_
        refine pw_lret E rfl ?_
        exact ⟨rfl, ⟨_, rfl⟩⟩
      · intro hc2
        change ¬ ((9 : Int) ≤ k5_4) at hc2
        refine pw_ld E (pc' := 13) (st' := [.long k5_2]) rfl (fun _ => rfl) ?_
        refine pw_ld E (pc' := 14) (st' := [pw_i st, .long k5_2]) rfl (fun _ => rfl) ?_
        refine pw_ld E (pc' := 16) (st' := [pw_i k5_4, pw_i st, .long k5_2]) rfl (fun _ => rfl) ?_
        refine pw_ii (f := fun x y => x >>> (y &&& 31)) E (pc' := 17) rfl (fun _ => rfl) ?_
        intro x3 hx3a hx3b
        refine pw_ld E (pc' := 18) (st' := [pw_i 1, pw_i x3, .long k5_2]) rfl (fun _ => rfl) ?_
        refine pw_ii (f := fun x y => x &&& y) E (pc' := 19) rfl (fun _ => rfl) ?_
        intro x4 hx4a hx4b
        refine pw_ld E (pc' := 20) (st' := [pw_i 1, pw_i x4, .long k5_2]) rfl (fun _ => rfl) ?_
        refine pw_if2 E (pc' := 31) rfl (by decide) (by omega) (by omega) (by decide) (by decide) ?_ ?_
        · intro hc5
          change x4 ≠ (1 : Int) at hc5
          refine pw_ld E (pc' := 32) (st' := [.long (Int64.ofInt 0), .long k5_2]) rfl (fun _ => rfl) ?_
          refine pw_ld E (pc' := 33) (st' := [.long (k5_2 + (Int64.ofInt 0))]) rfl (fun _ => rfl) ?_
          refine pw_lstn E (pc' := 34) (ls' := [some (.ref 180), some (pw_i st), some (.long (k5_2 + (Int64.ofInt 0))), none, some (pw_i k5_4)]) rfl rfl rfl rfl ?_
          refine pw_inc E (pc' := 37) (ls' := [some (.ref 180), some (pw_i st), some (.long (k5_2 + (Int64.ofInt 0))), none, some (pw_i (k5_4 + 1))]) rfl rfl rfl rfl ?_
          refine pw_goto E (pc' := 5) rfl (by decide) ?_
          exact ih5 _ (by omega) (k5_2 + (Int64.ofInt 0)) (k5_4 + 1)  (by omega) (by omega)  rfl
        · intro hc6
          change ¬ (x4 ≠ (1 : Int)) at hc6
          refine pw_ld E (pc' := 24) (st' := [.ref 180, .long k5_2]) rfl (fun _ => rfl) ?_
          refine pw_ld E (pc' := 26) (st' := [pw_i k5_4, .ref 180, .long k5_2]) rfl (fun _ => rfl) ?_
          refine pw_ald2 I E (c := 164) (pc' := 27) rfl rfl rfl (by decide) rfl (by decide) (by omega) (by omega) rfl (fun hf7a hf7b => ?_)
          refine pw_i2l E (pc' := 28) rfl rfl (by omega) (by omega) ?_
          refine pw_goto E (pc' := 32) rfl (by decide) ?_
          refine pw_ld E (pc' := 33) (st' := [.long (k5_2 + (Int64.ofInt (pw_g h 164 (k5_4.toNat))))]) rfl (fun _ => rfl) ?_
          refine pw_lstn E (pc' := 34) (ls' := [some (.ref 180), some (pw_i st), some (.long (k5_2 + (Int64.ofInt (pw_g h 164 (k5_4.toNat))))), none, some (pw_i k5_4)]) rfl rfl rfl rfl ?_
          refine pw_inc E (pc' := 37) (ls' := [some (.ref 180), some (pw_i st), some (.long (k5_2 + (Int64.ofInt (pw_g h 164 (k5_4.toNat))))), none, some (pw_i (k5_4 + 1))]) rfl rfl rfl rfl ?_
          refine pw_goto E (pc' := 5) rfl (by decide) ?_
          exact ih5 _ (by omega) (k5_2 + (Int64.ofInt (pw_g h 164 (k5_4.toNat)))) (k5_4 + 1)  (by omega) (by omega)  rfl
  exact L5 _ (Int64.ofInt 0) (0)  (by omega) (by omega)  rfl
set_option maxHeartbeats 4000000 in
theorem cm_299_165 {X : List (Nat × List Value)} {d : Nat} {h : pm_H} (hd : 1 ≤ d) (I : pw_I h) (st : Int) (hst1 : (-2147483648) ≤ st) (hst2 : st ≤ 2147483647) : pw X d h 299 0 [some (.ref 181), some (pw_i st), none, none, none] [] (fun h' v => h = h' ∧ ∃ w : Int64, v = .inl (some (.long w))) := by
  have E : pm_ent 299 = some (2, 5, 12, 2, pmc_299) := rfl
  refine pw_ld E (pc' := 1) (st' := [.long (Int64.ofInt 0)]) rfl (fun _ => rfl) ?_
  refine pw_lstn E (pc' := 2) (ls' := [some (.ref 181), some (pw_i st), some (.long (Int64.ofInt 0)), none, none]) rfl rfl rfl rfl ?_
  refine pw_ld E (pc' := 3) (st' := [pw_i 0]) rfl (fun _ => rfl) ?_
  refine pw_ist E (pc' := 5) (ls' := [some (.ref 181), some (pw_i st), some (.long (Int64.ofInt 0)), none, some (pw_i 0)]) rfl rfl rfl rfl ?_
  have L5 : ∀ (n5 : Nat) (k5_2 : Int64) (k5_4 : Int), 0 ≤ k5_4 → k5_4 ≤ 9 → (9 - k5_4).toNat = n5 → pw X d h 299 5 [some (.ref 181), some (pw_i st), some (.long k5_2), none, some (pw_i k5_4)] [] (fun h' v => h = h' ∧ ∃ w : Int64, v = .inl (some (.long w))) := by
    intro n5
    induction n5 using Nat.strongRecOn with
    | ind n5 ih5 =>
      intro k5_2 k5_4 k5_4a k5_4b hm5
      refine pw_ld E (pc' := 7) (st' := [pw_i k5_4]) rfl (fun _ => rfl) ?_
      refine pw_bip E (pc' := 9) rfl rfl (by decide) ?_
      refine pw_if2 E (pc' := 40) rfl (by decide) (by omega) (by omega) (by decide) (by decide) ?_ ?_
      · intro hc1
        change (9 : Int) ≤ k5_4 at hc1
        refine pw_ld E (pc' := 41) (st' := [.long k5_2]) rfl (fun _ => rfl) ?_
        refine pw_lret E rfl ?_
        exact ⟨rfl, ⟨_, rfl⟩⟩
      · intro hc2
        change ¬ ((9 : Int) ≤ k5_4) at hc2
        refine pw_ld E (pc' := 13) (st' := [.long k5_2]) rfl (fun _ => rfl) ?_
        refine pw_ld E (pc' := 14) (st' := [pw_i st, .long k5_2]) rfl (fun _ => rfl) ?_
        refine pw_ld E (pc' := 16) (st' := [pw_i k5_4, pw_i st, .long k5_2]) rfl (fun _ => rfl) ?_
        refine pw_ii (f := fun x y => x >>> (y &&& 31)) E (pc' := 17) rfl (fun _ => rfl) ?_
        intro x3 hx3a hx3b
        refine pw_ld E (pc' := 18) (st' := [pw_i 1, pw_i x3, .long k5_2]) rfl (fun _ => rfl) ?_
        refine pw_ii (f := fun x y => x &&& y) E (pc' := 19) rfl (fun _ => rfl) ?_
        intro x4 hx4a hx4b
        refine pw_ld E (pc' := 20) (st' := [pw_i 1, pw_i x4, .long k5_2]) rfl (fun _ => rfl) ?_
        refine pw_if2 E (pc' := 31) rfl (by decide) (by omega) (by omega) (by decide) (by decide) ?_ ?_
        · intro hc5
          change x4 ≠ (1 : Int) at hc5
          refine pw_ld E (pc' := 32) (st' := [.long (Int64.ofInt 0), .long k5_2]) rfl (fun _ => rfl) ?_
          refine pw_ld E (pc' := 33) (st' := [.long (k5_2 + (Int64.ofInt 0))]) rfl (fun _ => rfl) ?_
          refine pw_lstn E (pc' := 34) (ls' := [some (.ref 181), some (pw_i st), some (.long (k5_2 + (Int64.ofInt 0))), none, some (pw_i k5_4)]) rfl rfl rfl rfl ?_
          refine pw_inc E (pc' := 37) (ls' := [some (.ref 181), some (pw_i st), some (.long (k5_2 + (Int64.ofInt 0))), none, some (pw_i (k5_4 + 1))]) rfl rfl rfl rfl ?_
          refine pw_goto E (pc' := 5) rfl (by decide) ?_
          exact ih5 _ (by omega) (k5_2 + (Int64.ofInt 0)) (k5_4 + 1)  (by omega) (by omega)  rfl
        · intro hc6
          change ¬ (x4 ≠ (1 : Int)) at hc6
          refine pw_ld E (pc' := 24) (st' := [.ref 181, .long k5_2]) rfl (fun _ => rfl) ?_
          refine pw_ld E (pc' := 26) (st' := [pw_i k5_4, .ref 181, .long k5_2]) rfl (fun _ => rfl) ?_
          refine pw_ald2 I E (c := 165) (pc' := 27) rfl rfl rfl (by decide) rfl (by decide) (by omega) (by omega) rfl (fun hf7a hf7b => ?_)
          refine pw_i2l E (pc' := 28) rfl rfl (by omega) (by omega) ?_
          refine pw_goto E (pc' := 32) rfl (by decide) ?_
          refine pw_ld E (pc' := 33) (st' := [.long (k5_2 + (Int64.ofInt (pw_g h 165 (k5_4.toNat))))]) rfl (fun _ => rfl) ?_
          refine pw_lstn E (pc' := 34) (ls' := [some (.ref 181), some (pw_i st), some (.long (k5_2 + (Int64.ofInt (pw_g h 165 (k5_4.toNat))))), none, some (pw_i k5_4)]) rfl rfl rfl rfl ?_
          refine pw_inc E (pc' := 37) (ls' := [some (.ref 181), some (pw_i st), some (.long (k5_2 + (Int64.ofInt (pw_g h 165 (k5_4.toNat))))), none, some (pw_i (k5_4 + 1))]) rfl rfl rfl rfl ?_
          refine pw_goto E (pc' := 5) rfl (by decide) ?_
          exact ih5 _ (by omega) (k5_2 + (Int64.ofInt (pw_g h 165 (k5_4.toNat)))) (k5_4 + 1)  (by omega) (by omega)  rfl
  exact L5 _ (Int64.ofInt 0) (0)  (by omega) (by omega)  rfl
set_option maxHeartbeats 4000000 in
theorem cm_301 {X : List (Nat × List Value)} {d : Nat} {h : pm_H} (hd : 3 ≤ d) (I : pw_I h) (mo : Int) (hmo1 : (-2147483648) ≤ mo) (hmo2 : mo ≤ 2147483647) (wt : Int) (hwt1 : (-2147483648) ≤ wt) (hwt2 : wt ≤ 2147483647) : pw X d h 301 0 [some (.ref 141), some (pw_i mo), some (pw_i wt), none, none, none, none, none, none] [] (fun h' v => pw_I h' ∧ pw_E [125] h h' ∧ ∃ a : Int, v = .inl (some (pw_i a)) ∧ (-2147483648) ≤ a ∧ a ≤ 2147483647) := by
  have E : pm_ent 301 = some (3, 9, 12, 0, pmc_301) := rfl
  have E0 : pw_E [125] h h := pw_E.rf _ _
  refine pw_ld E (pc' := 1) (st' := [.ref 141]) rfl (fun _ => rfl) ?_
  refine pw_ld E (pc' := 2) (st' := [pw_i 0, .ref 141]) rfl (fun _ => rfl) ?_
  refine pw_putI I E (c := 125) (k := 0) (pc' := 5) rfl rfl rfl rfl (by omega) (by omega) (by omega) (by omega) rfl rfl ?_
  intro h1I h1E
  generalize h1w : pw_w h 125 0 (pw_i 0) = h1 at h1I h1E ⊢
  have h1F := E0.tr (h1E.wk (W' := [125]) (by first | rfl | simp))
  refine pw_ld E (pc' := 6) (st' := [pw_i mo]) rfl (fun _ => rfl) ?_
  refine pw_call (m' := 205) (As := [pw_i mo]) (rest := []) (ls'' := [some (pw_i mo)]) (Nat.le_trans (by decide) hd) E rfl (fun _ => pw_iS rfl rfl rfl) (rfl : pm_ent 205 = some (1, 1, 12, 1, pmc_205)) rfl rfl (cm_205 (pw_dp hd (by decide)) h1I (mo) (by omega) (by omega)) ?_
  rintro u3 v2 ⟨rfl, x4, rfl, hx4a, hx4b, hx4r⟩
  refine ⟨_, rfl, ?_⟩
  show pw X d h1 301 9 [some (.ref 141), some (pw_i mo), some (pw_i wt), none, none, none, none, none, none] [pw_i x4] _
  change (x4 = 1 ∧ 0 ≤ mo ∧ mo ≤ 11) ∨ (x4 = 0 ∧ ¬ (0 ≤ mo ∧ mo ≤ 11)) at hx4r
  rcases (by omega : x4 = 1 ∨ x4 = 0) with hb5 | hb5
  · skip
    refine pw_if E (pc' := 21) rfl (by decide) (by omega) (by omega) ?_ ?_
    · intro hc6
      change x4 = (0 : Int) at hc6
      exfalso; omega
    · intro hc7
      change ¬ (x4 = (0 : Int)) at hc7
      refine pw_ld E (pc' := 13) (st' := [pw_i wt]) rfl (fun _ => rfl) ?_
      refine pw_ld E (pc' := 14) (st' := [pw_i 0, pw_i wt]) rfl (fun _ => rfl) ?_
      refine pw_ld E (pc' := 15) (st' := [pw_i 2, pw_i 0, pw_i wt]) rfl (fun _ => rfl) ?_
      refine pw_call (m' := 202) (As := [pw_i wt, pw_i 0, pw_i 2]) (rest := []) (ls'' := [some (pw_i wt), some (pw_i 0), some (pw_i 2)]) (Nat.le_trans (by decide) hd) E rfl (fun _ => pw_iS rfl rfl rfl) (rfl : pm_ent 202 = some (3, 3, 12, 1, pmc_202)) rfl rfl (cm_202 (pw_dp hd (by decide)) h1I (wt) (by omega) (by omega) (0) (by omega) (by omega) (2) (by omega) (by omega)) ?_
      rintro u9 v8 ⟨rfl, x10, rfl, hx10a, hx10b, hx10r⟩
      refine ⟨_, rfl, ?_⟩
      show pw X d h1 301 18 [some (.ref 141), some (pw_i mo), some (pw_i wt), none, none, none, none, none, none] [pw_i x10] _
      change (x10 = 1 ∧ 0 ≤ wt ∧ wt ≤ 2) ∨ (x10 = 0 ∧ ¬ (0 ≤ wt ∧ wt ≤ 2)) at hx10r
      rcases (by omega : x10 = 1 ∨ x10 = 0) with hb11 | hb11
      · skip
        refine pw_if E (pc' := 23) rfl (by decide) (by omega) (by omega) ?_ ?_
        · intro hc12
          change x10 ≠ (0 : Int) at hc12
          refine pw_ld E (pc' := 24) (st' := [pw_i 0]) rfl (fun _ => rfl) ?_
          refine pw_istn E (pc' := 25) (ls' := [some (.ref 141), some (pw_i mo), some (pw_i wt), some (pw_i 0), none, none, none, none, none]) rfl rfl rfl rfl ?_
          refine pw_ld E (pc' := 26) (st' := [pw_i 0]) rfl (fun _ => rfl) ?_
          refine pw_ist E (pc' := 28) (ls' := [some (.ref 141), some (pw_i mo), some (pw_i wt), some (pw_i 0), some (pw_i 0), none, none, none, none]) rfl rfl rfl rfl ?_
          refine pw_ld E (pc' := 29) (st' := [pw_i 0]) rfl (fun _ => rfl) ?_
          refine pw_ist E (pc' := 31) (ls' := [some (.ref 141), some (pw_i mo), some (pw_i wt), some (pw_i 0), some (pw_i 0), some (pw_i 0), none, none, none]) rfl rfl rfl rfl ?_
          refine pw_ld E (pc' := 32) (st' := [pw_i 0]) rfl (fun _ => rfl) ?_
          refine pw_ist E (pc' := 34) (ls' := [some (.ref 141), some (pw_i mo), some (pw_i wt), some (pw_i 0), some (pw_i 0), some (pw_i 0), some (pw_i 0), none, none]) rfl rfl rfl rfl ?_
          have L34 : ∀ (n34 : Nat) (k34_3 : Int) (k34_4 : Int) (k34_5 : Int) (k34_6 : Int) (k34_7 : Option Value) (k34_8 : Option Value), 0 ≤ k34_3 → k34_3 ≤ 24 → (-2147483648) ≤ k34_4 → k34_4 ≤ 2147483647 → (-2147483648) ≤ k34_5 → k34_5 ≤ 2147483647 → 0 ≤ k34_6 → k34_6 ≤ 24 → k34_3 + 0 ≤ k34_6 + 0 → (24 - k34_6).toNat = n34 → pw X d h1 301 34 [some (.ref 141), some (pw_i mo), some (pw_i wt), some (pw_i k34_3), some (pw_i k34_4), some (pw_i k34_5), some (pw_i k34_6), k34_7, k34_8] [] (fun h' v => pw_I h' ∧ pw_E [125] h h' ∧ ∃ a : Int, v = .inl (some (pw_i a)) ∧ (-2147483648) ≤ a ∧ a ≤ 2147483647) := by
            intro n34
            induction n34 using Nat.strongRecOn with
            | ind n34 ih34 =>
              intro k34_3 k34_4 k34_5 k34_6 k34_7 k34_8 k34_3a k34_3b k34_4a k34_4b k34_5a k34_5b k34_6a k34_6b hx34_0 hm34
              refine pw_ld E (pc' := 36) (st' := [pw_i k34_6]) rfl (fun _ => rfl) ?_
              refine pw_bip E (pc' := 38) rfl rfl (by decide) ?_
              refine pw_if2 E (pc' := 152) rfl (by decide) (by omega) (by omega) (by decide) (by decide) ?_ ?_
              · intro hc13
                change (24 : Int) ≤ k34_6 at hc13
                refine pw_ld E (pc' := 153) (st' := [pw_i wt]) rfl (fun _ => rfl) ?_
                refine pw_if E (pc' := 160) rfl (by decide) (by omega) (by omega) ?_ ?_
                · intro hc14
                  change wt ≠ (0 : Int) at hc14
                  refine pw_ld E (pc' := 161) (st' := [pw_i wt]) rfl (fun _ => rfl) ?_
                  refine pw_ld E (pc' := 162) (st' := [pw_i 1, pw_i wt]) rfl (fun _ => rfl) ?_
                  refine pw_if2 E (pc' := 170) rfl (by decide) (by omega) (by omega) (by decide) (by decide) ?_ ?_
                  · intro hc15
                    change wt ≠ (1 : Int) at hc15
                    refine pw_ld E (pc' := 172) (st' := [pw_i k34_5]) rfl (fun _ => rfl) ?_
                    refine pw_iret E rfl ?_
                    exact ⟨h1I, h1F, ⟨_, rfl, by omega, by omega⟩⟩
                  · intro hc16
                    change ¬ (wt ≠ (1 : Int)) at hc16
                    refine pw_ld E (pc' := 167) (st' := [pw_i k34_4]) rfl (fun _ => rfl) ?_
                    refine pw_goto E (pc' := 172) rfl (by decide) ?_
                    refine pw_iret E rfl ?_
                    exact ⟨h1I, h1F, ⟨_, rfl, by omega, by omega⟩⟩
                · intro hc17
                  change ¬ (wt ≠ (0 : Int)) at hc17
                  refine pw_ld E (pc' := 157) (st' := [pw_i k34_3]) rfl (fun _ => rfl) ?_
                  refine pw_goto E (pc' := 172) rfl (by decide) ?_
                  refine pw_iret E rfl ?_
                  exact ⟨h1I, h1F, ⟨_, rfl, by omega, by omega⟩⟩
              · intro hc18
                change ¬ ((24 : Int) ≤ k34_6) at hc18
                refine pw_bip E (pc' := 43) rfl rfl (by decide) ?_
                refine pw_ld E (pc' := 45) (st' := [pw_i k34_6, pw_i 12]) rfl (fun _ => rfl) ?_
                refine pw_mul E (pc' := 46) rfl rfl ?_
                refine pw_ld E (pc' := 47) (st' := [pw_i mo, pw_i (12 * k34_6)]) rfl (fun _ => rfl) ?_
                refine pw_add E (pc' := 48) rfl rfl ?_
                refine pw_ist E (pc' := 50) (ls' := [some (.ref 141), some (pw_i mo), some (pw_i wt), some (pw_i k34_3), some (pw_i k34_4), some (pw_i k34_5), some (pw_i k34_6), some (pw_i ((12 * k34_6) + mo)), k34_8]) rfl rfl rfl rfl ?_
                refine pw_ld E (pc' := 51) (st' := [.ref 141]) rfl (fun _ => rfl) ?_
                refine pw_getR (b := 147) h1I E (c := 125) (k := 10) (pc' := 54) rfl rfl rfl rfl rfl rfl rfl ?_
                refine pw_ld E (pc' := 56) (st' := [pw_i k34_6, .ref 147]) rfl (fun _ => rfl) ?_
                refine pw_ald2 h1I E (c := 131) (pc' := 57) rfl rfl rfl (by decide) rfl (by decide) (by omega) (by omega) rfl (fun hf19a hf19b => ?_)
                refine pw_if E (pc' := 146) rfl (by decide) (by omega) (by omega) ?_ ?_
                · intro hc20
                  change pw_g h1 131 (k34_6.toNat) = (0 : Int) at hc20
                  refine pw_inc E (pc' := 149) (ls' := [some (.ref 141), some (pw_i mo), some (pw_i wt), some (pw_i k34_3), some (pw_i k34_4), some (pw_i k34_5), some (pw_i (k34_6 + 1)), some (pw_i ((12 * k34_6) + mo)), k34_8]) rfl rfl rfl rfl ?_
                  refine pw_goto E (pc' := 34) rfl (by decide) ?_
                  exact ih34 _ (by omega) (k34_3) (k34_4) (k34_5) (k34_6 + 1) (some (pw_i ((12 * k34_6) + mo))) k34_8  (by omega) (by omega) (by omega) (by omega) (by omega) (by omega) (by omega) (by omega) (by omega) rfl
                · intro hc21
                  change ¬ (pw_g h1 131 (k34_6.toNat) = (0 : Int)) at hc21
                  refine pw_ld E (pc' := 61) (st' := [.ref 141]) rfl (fun _ => rfl) ?_
                  refine pw_getR (b := 154) h1I E (c := 125) (k := 18) (pc' := 64) rfl rfl rfl rfl rfl rfl rfl ?_
                  refine pw_ld E (pc' := 66) (st' := [pw_i ((12 * k34_6) + mo), .ref 154]) rfl (fun _ => rfl) ?_
                  refine pw_ald2 h1I E (c := 138) (pc' := 67) rfl rfl rfl (by decide) rfl (by decide) (by omega) (by omega) rfl (fun hf22a hf22b => ?_)
                  refine pw_if E (pc' := 146) rfl (by decide) (by omega) (by omega) ?_ ?_
                  · intro hc23
                    change pw_g h1 138 (((12 * k34_6) + mo).toNat) = (0 : Int) at hc23
                    refine pw_inc E (pc' := 149) (ls' := [some (.ref 141), some (pw_i mo), some (pw_i wt), some (pw_i k34_3), some (pw_i k34_4), some (pw_i k34_5), some (pw_i (k34_6 + 1)), some (pw_i ((12 * k34_6) + mo)), k34_8]) rfl rfl rfl rfl ?_
                    refine pw_goto E (pc' := 34) rfl (by decide) ?_
                    exact ih34 _ (by omega) (k34_3) (k34_4) (k34_5) (k34_6 + 1) (some (pw_i ((12 * k34_6) + mo))) k34_8  (by omega) (by omega) (by omega) (by omega) (by omega) (by omega) (by omega) (by omega) (by omega) rfl
                  · intro hc24
                    change ¬ (pw_g h1 138 (((12 * k34_6) + mo).toNat) = (0 : Int)) at hc24
                    refine pw_ld E (pc' := 71) (st' := [.ref 141]) rfl (fun _ => rfl) ?_
                    refine pw_getR (b := 157) h1I E (c := 125) (k := 21) (pc' := 74) rfl rfl rfl rfl rfl rfl rfl ?_
                    refine pw_ld E (pc' := 76) (st' := [pw_i ((12 * k34_6) + mo), .ref 157]) rfl (fun _ => rfl) ?_
                    refine pw_ald2 h1I E (c := 141) (pc' := 77) rfl rfl rfl (by decide) rfl (by decide) (by omega) (by omega) rfl (fun hf25a hf25b => ?_)
                    refine pw_ld E (pc' := 78) (st' := [pw_i 1, pw_i (pw_g h1 141 (((12 * k34_6) + mo).toNat))]) rfl (fun _ => rfl) ?_
                    refine pw_if2 E (pc' := 146) rfl (by decide) (by omega) (by omega) (by decide) (by decide) ?_ ?_
                    · intro hc26
                      change pw_g h1 141 (((12 * k34_6) + mo).toNat) ≠ (1 : Int) at hc26
                      refine pw_inc E (pc' := 149) (ls' := [some (.ref 141), some (pw_i mo), some (pw_i wt), some (pw_i k34_3), some (pw_i k34_4), some (pw_i k34_5), some (pw_i (k34_6 + 1)), some (pw_i ((12 * k34_6) + mo)), k34_8]) rfl rfl rfl rfl ?_
                      refine pw_goto E (pc' := 34) rfl (by decide) ?_
                      exact ih34 _ (by omega) (k34_3) (k34_4) (k34_5) (k34_6 + 1) (some (pw_i ((12 * k34_6) + mo))) k34_8  (by omega) (by omega) (by omega) (by omega) (by omega) (by omega) (by omega) (by omega) (by omega) rfl
                    · intro hc27
                      change ¬ (pw_g h1 141 (((12 * k34_6) + mo).toNat) ≠ (1 : Int)) at hc27
                      refine pw_ld E (pc' := 82) (st' := [.ref 141]) rfl (fun _ => rfl) ?_
                      refine pw_ld E (pc' := 84) (st' := [pw_i k34_6, .ref 141]) rfl (fun _ => rfl) ?_
                      refine pw_ld E (pc' := 85) (st' := [pw_i mo, pw_i k34_6, .ref 141]) rfl (fun _ => rfl) ?_
                      obtain ⟨f28l, f28h, -⟩ := pw_obj (c := 125) h1I rfl
                      refine pw_call (m' := 210) (As := [.ref 141, pw_i k34_6, pw_i mo]) (rest := []) (ls'' := [some (.ref 141), some (pw_i k34_6), some (pw_i mo)]) (Nat.le_trans (by decide) hd) E rfl (fun _ => pw_iV rfl rfl rfl rfl (pw_cellI f28h rfl)) (rfl : pm_ent 210 = some (3, 3, 12, 0, pmc_210)) rfl rfl (cm_210 (pw_dp hd (by decide)) h1I (k34_6) (by omega) (by omega) (mo) (by omega) (by omega)) ?_
                      rintro u30 v29 ⟨rfl, x31, rfl, hx31a, hx31b⟩
                      refine ⟨_, rfl, ?_⟩
                      show pw X d h1 301 88 [some (.ref 141), some (pw_i mo), some (pw_i wt), some (pw_i k34_3), some (pw_i k34_4), some (pw_i k34_5), some (pw_i k34_6), some (pw_i ((12 * k34_6) + mo)), k34_8] [pw_i x31] _
                      refine pw_ld E (pc' := 89) (st' := [.ref 141, pw_i x31]) rfl (fun _ => rfl) ?_
                      refine pw_ld E (pc' := 91) (st' := [pw_i ((12 * k34_6) + mo), .ref 141, pw_i x31]) rfl (fun _ => rfl) ?_
                      obtain ⟨f32l, f32h, -⟩ := pw_obj (c := 125) h1I rfl
                      refine pw_call (m' := 302) (As := [.ref 141, pw_i ((12 * k34_6) + mo)]) (rest := [pw_i x31]) (ls'' := [some (.ref 141), some (pw_i ((12 * k34_6) + mo))]) (Nat.le_trans (by decide) hd) E rfl (fun _ => pw_iV rfl rfl rfl rfl (pw_cellI f32h rfl)) (rfl : pm_ent 302 = some (2, 2, 12, 0, pmc_302)) rfl rfl (cm_302 (pw_dp hd (by decide)) h1I ((12 * k34_6) + mo) (by omega) (by omega)) ?_
                      rintro u34 v33 ⟨rfl, x35, rfl, hx35a, hx35b⟩
                      refine ⟨_, rfl, ?_⟩
                      show pw X d h1 301 94 [some (.ref 141), some (pw_i mo), some (pw_i wt), some (pw_i k34_3), some (pw_i k34_4), some (pw_i k34_5), some (pw_i k34_6), some (pw_i ((12 * k34_6) + mo)), k34_8] [pw_i x35, pw_i x31] _
                      refine pw_sub E (pc' := 95) rfl rfl ?_
                      refine pw_nm (fun x36 hx36a hx36b => ?_)
                      refine pw_ist E (pc' := 97) (ls' := [some (.ref 141), some (pw_i mo), some (pw_i wt), some (pw_i k34_3), some (pw_i k34_4), some (pw_i k34_5), some (pw_i k34_6), some (pw_i ((12 * k34_6) + mo)), some (pw_i x36)]) rfl rfl rfl rfl ?_
                      refine pw_ld E (pc' := 99) (st' := [pw_i x36]) rfl (fun _ => rfl) ?_
                      refine pw_if E (pc' := 108) rfl (by decide) (by omega) (by omega) ?_ ?_
                      · intro hc37
                        change (0 : Int) ≤ x36 at hc37
                        refine pw_ld E (pc' := 110) (st' := [pw_i x36]) rfl (fun _ => rfl) ?_
                        refine pw_ist E (pc' := 112) (ls' := [some (.ref 141), some (pw_i mo), some (pw_i wt), some (pw_i k34_3), some (pw_i k34_4), some (pw_i k34_5), some (pw_i k34_6), some (pw_i ((12 * k34_6) + mo)), some (pw_i x36)]) rfl rfl rfl rfl ?_
                        refine pw_inc E (pc' := 115) (ls' := [some (.ref 141), some (pw_i mo), some (pw_i wt), some (pw_i (k34_3 + 1)), some (pw_i k34_4), some (pw_i k34_5), some (pw_i k34_6), some (pw_i ((12 * k34_6) + mo)), some (pw_i x36)]) rfl rfl rfl rfl ?_
                        refine pw_ld E (pc' := 117) (st' := [pw_i k34_4]) rfl (fun _ => rfl) ?_
                        refine pw_ld E (pc' := 119) (st' := [pw_i x36, pw_i k34_4]) rfl (fun _ => rfl) ?_
                        refine pw_if E (pc' := 126) rfl (by decide) (by omega) (by omega) ?_ ?_
                        · intro hc38
                          change x36 ≤ (0 : Int) at hc38
                          refine pw_ld E (pc' := 127) (st' := [pw_i 0, pw_i k34_4]) rfl (fun _ => rfl) ?_
                          refine pw_add E (pc' := 128) rfl rfl ?_
                          refine pw_ist E (pc' := 130) (ls' := [some (.ref 141), some (pw_i mo), some (pw_i wt), some (pw_i (k34_3 + 1)), some (pw_i (k34_4 + 0)), some (pw_i k34_5), some (pw_i k34_6), some (pw_i ((12 * k34_6) + mo)), some (pw_i x36)]) rfl rfl rfl rfl ?_
                          refine pw_ld E (pc' := 132) (st' := [pw_i x36]) rfl (fun _ => rfl) ?_
                          refine pw_ld E (pc' := 134) (st' := [pw_i k34_5, pw_i x36]) rfl (fun _ => rfl) ?_
                          refine pw_if2 E (pc' := 142) rfl (by decide) (by omega) (by omega) (by omega) (by omega) ?_ ?_
                          · intro hc39
                            change x36 ≤ k34_5 at hc39
                            refine pw_ld E (pc' := 144) (st' := [pw_i k34_5]) rfl (fun _ => rfl) ?_
                            refine pw_ist E (pc' := 146) (ls' := [some (.ref 141), some (pw_i mo), some (pw_i wt), some (pw_i (k34_3 + 1)), some (pw_i (k34_4 + 0)), some (pw_i k34_5), some (pw_i k34_6), some (pw_i ((12 * k34_6) + mo)), some (pw_i x36)]) rfl rfl rfl rfl ?_
                            refine pw_inc E (pc' := 149) (ls' := [some (.ref 141), some (pw_i mo), some (pw_i wt), some (pw_i (k34_3 + 1)), some (pw_i (k34_4 + 0)), some (pw_i k34_5), some (pw_i (k34_6 + 1)), some (pw_i ((12 * k34_6) + mo)), some (pw_i x36)]) rfl rfl rfl rfl ?_
                            refine pw_goto E (pc' := 34) rfl (by decide) ?_
                            exact ih34 _ (by omega) (k34_3 + 1) (k34_4 + 0) (k34_5) (k34_6 + 1) (some (pw_i ((12 * k34_6) + mo))) (some (pw_i x36))  (by omega) (by omega) (by omega) (by omega) (by omega) (by omega) (by omega) (by omega) (by omega) rfl
                          · intro hc40
                            change ¬ (x36 ≤ k34_5) at hc40
                            refine pw_ld E (pc' := 139) (st' := [pw_i x36]) rfl (fun _ => rfl) ?_
                            refine pw_goto E (pc' := 144) rfl (by decide) ?_
                            refine pw_ist E (pc' := 146) (ls' := [some (.ref 141), some (pw_i mo), some (pw_i wt), some (pw_i (k34_3 + 1)), some (pw_i (k34_4 + 0)), some (pw_i x36), some (pw_i k34_6), some (pw_i ((12 * k34_6) + mo)), some (pw_i x36)]) rfl rfl rfl rfl ?_
                            refine pw_inc E (pc' := 149) (ls' := [some (.ref 141), some (pw_i mo), some (pw_i wt), some (pw_i (k34_3 + 1)), some (pw_i (k34_4 + 0)), some (pw_i x36), some (pw_i (k34_6 + 1)), some (pw_i ((12 * k34_6) + mo)), some (pw_i x36)]) rfl rfl rfl rfl ?_
                            refine pw_goto E (pc' := 34) rfl (by decide) ?_
                            exact ih34 _ (by omega) (k34_3 + 1) (k34_4 + 0) (x36) (k34_6 + 1) (some (pw_i ((12 * k34_6) + mo))) (some (pw_i x36))  (by omega) (by omega) (by omega) (by omega) (by omega) (by omega) (by omega) (by omega) (by omega) rfl
                        · intro hc41
                          change ¬ (x36 ≤ (0 : Int)) at hc41
                          refine pw_ld E (pc' := 123) (st' := [pw_i 1, pw_i k34_4]) rfl (fun _ => rfl) ?_
                          refine pw_goto E (pc' := 127) rfl (by decide) ?_
                          refine pw_add E (pc' := 128) rfl rfl ?_
                          refine pw_nm (fun x42 hx42a hx42b => ?_)
                          refine pw_ist E (pc' := 130) (ls' := [some (.ref 141), some (pw_i mo), some (pw_i wt), some (pw_i (k34_3 + 1)), some (pw_i x42), some (pw_i k34_5), some (pw_i k34_6), some (pw_i ((12 * k34_6) + mo)), some (pw_i x36)]) rfl rfl rfl rfl ?_
                          refine pw_ld E (pc' := 132) (st' := [pw_i x36]) rfl (fun _ => rfl) ?_
                          refine pw_ld E (pc' := 134) (st' := [pw_i k34_5, pw_i x36]) rfl (fun _ => rfl) ?_
                          refine pw_if2 E (pc' := 142) rfl (by decide) (by omega) (by omega) (by omega) (by omega) ?_ ?_
                          · intro hc43
                            change x36 ≤ k34_5 at hc43
                            refine pw_ld E (pc' := 144) (st' := [pw_i k34_5]) rfl (fun _ => rfl) ?_
                            refine pw_ist E (pc' := 146) (ls' := [some (.ref 141), some (pw_i mo), some (pw_i wt), some (pw_i (k34_3 + 1)), some (pw_i x42), some (pw_i k34_5), some (pw_i k34_6), some (pw_i ((12 * k34_6) + mo)), some (pw_i x36)]) rfl rfl rfl rfl ?_
                            refine pw_inc E (pc' := 149) (ls' := [some (.ref 141), some (pw_i mo), some (pw_i wt), some (pw_i (k34_3 + 1)), some (pw_i x42), some (pw_i k34_5), some (pw_i (k34_6 + 1)), some (pw_i ((12 * k34_6) + mo)), some (pw_i x36)]) rfl rfl rfl rfl ?_
                            refine pw_goto E (pc' := 34) rfl (by decide) ?_
                            exact ih34 _ (by omega) (k34_3 + 1) (x42) (k34_5) (k34_6 + 1) (some (pw_i ((12 * k34_6) + mo))) (some (pw_i x36))  (by omega) (by omega) (by omega) (by omega) (by omega) (by omega) (by omega) (by omega) (by omega) rfl
                          · intro hc44
                            change ¬ (x36 ≤ k34_5) at hc44
                            refine pw_ld E (pc' := 139) (st' := [pw_i x36]) rfl (fun _ => rfl) ?_
                            refine pw_goto E (pc' := 144) rfl (by decide) ?_
                            refine pw_ist E (pc' := 146) (ls' := [some (.ref 141), some (pw_i mo), some (pw_i wt), some (pw_i (k34_3 + 1)), some (pw_i x42), some (pw_i x36), some (pw_i k34_6), some (pw_i ((12 * k34_6) + mo)), some (pw_i x36)]) rfl rfl rfl rfl ?_
                            refine pw_inc E (pc' := 149) (ls' := [some (.ref 141), some (pw_i mo), some (pw_i wt), some (pw_i (k34_3 + 1)), some (pw_i x42), some (pw_i x36), some (pw_i (k34_6 + 1)), some (pw_i ((12 * k34_6) + mo)), some (pw_i x36)]) rfl rfl rfl rfl ?_
                            refine pw_goto E (pc' := 34) rfl (by decide) ?_
                            exact ih34 _ (by omega) (k34_3 + 1) (x42) (x36) (k34_6 + 1) (some (pw_i ((12 * k34_6) + mo))) (some (pw_i x36))  (by omega) (by omega) (by omega) (by omega) (by omega) (by omega) (by omega) (by omega) (by omega) rfl
                      · intro hc45
                        change ¬ ((0 : Int) ≤ x36) at hc45
                        refine pw_ld E (pc' := 104) (st' := [pw_i x36]) rfl (fun _ => rfl) ?_
                        refine pw_ineg E (pc' := 105) rfl rfl ?_
                        refine pw_nm (fun x46 hx46a hx46b => ?_)
                        refine pw_goto E (pc' := 110) rfl (by decide) ?_
                        refine pw_ist E (pc' := 112) (ls' := [some (.ref 141), some (pw_i mo), some (pw_i wt), some (pw_i k34_3), some (pw_i k34_4), some (pw_i k34_5), some (pw_i k34_6), some (pw_i ((12 * k34_6) + mo)), some (pw_i x46)]) rfl rfl rfl rfl ?_
                        refine pw_inc E (pc' := 115) (ls' := [some (.ref 141), some (pw_i mo), some (pw_i wt), some (pw_i (k34_3 + 1)), some (pw_i k34_4), some (pw_i k34_5), some (pw_i k34_6), some (pw_i ((12 * k34_6) + mo)), some (pw_i x46)]) rfl rfl rfl rfl ?_
                        refine pw_ld E (pc' := 117) (st' := [pw_i k34_4]) rfl (fun _ => rfl) ?_
                        refine pw_ld E (pc' := 119) (st' := [pw_i x46, pw_i k34_4]) rfl (fun _ => rfl) ?_
                        refine pw_if E (pc' := 126) rfl (by decide) (by omega) (by omega) ?_ ?_
                        · intro hc47
                          change x46 ≤ (0 : Int) at hc47
                          refine pw_ld E (pc' := 127) (st' := [pw_i 0, pw_i k34_4]) rfl (fun _ => rfl) ?_
                          refine pw_add E (pc' := 128) rfl rfl ?_
                          refine pw_ist E (pc' := 130) (ls' := [some (.ref 141), some (pw_i mo), some (pw_i wt), some (pw_i (k34_3 + 1)), some (pw_i (k34_4 + 0)), some (pw_i k34_5), some (pw_i k34_6), some (pw_i ((12 * k34_6) + mo)), some (pw_i x46)]) rfl rfl rfl rfl ?_
                          refine pw_ld E (pc' := 132) (st' := [pw_i x46]) rfl (fun _ => rfl) ?_
                          refine pw_ld E (pc' := 134) (st' := [pw_i k34_5, pw_i x46]) rfl (fun _ => rfl) ?_
                          refine pw_if2 E (pc' := 142) rfl (by decide) (by omega) (by omega) (by omega) (by omega) ?_ ?_
                          · intro hc48
                            change x46 ≤ k34_5 at hc48
                            refine pw_ld E (pc' := 144) (st' := [pw_i k34_5]) rfl (fun _ => rfl) ?_
                            refine pw_ist E (pc' := 146) (ls' := [some (.ref 141), some (pw_i mo), some (pw_i wt), some (pw_i (k34_3 + 1)), some (pw_i (k34_4 + 0)), some (pw_i k34_5), some (pw_i k34_6), some (pw_i ((12 * k34_6) + mo)), some (pw_i x46)]) rfl rfl rfl rfl ?_
                            refine pw_inc E (pc' := 149) (ls' := [some (.ref 141), some (pw_i mo), some (pw_i wt), some (pw_i (k34_3 + 1)), some (pw_i (k34_4 + 0)), some (pw_i k34_5), some (pw_i (k34_6 + 1)), some (pw_i ((12 * k34_6) + mo)), some (pw_i x46)]) rfl rfl rfl rfl ?_
                            refine pw_goto E (pc' := 34) rfl (by decide) ?_
                            exact ih34 _ (by omega) (k34_3 + 1) (k34_4 + 0) (k34_5) (k34_6 + 1) (some (pw_i ((12 * k34_6) + mo))) (some (pw_i x46))  (by omega) (by omega) (by omega) (by omega) (by omega) (by omega) (by omega) (by omega) (by omega) rfl
                          · intro hc49
                            change ¬ (x46 ≤ k34_5) at hc49
                            refine pw_ld E (pc' := 139) (st' := [pw_i x46]) rfl (fun _ => rfl) ?_
                            refine pw_goto E (pc' := 144) rfl (by decide) ?_
                            refine pw_ist E (pc' := 146) (ls' := [some (.ref 141), some (pw_i mo), some (pw_i wt), some (pw_i (k34_3 + 1)), some (pw_i (k34_4 + 0)), some (pw_i x46), some (pw_i k34_6), some (pw_i ((12 * k34_6) + mo)), some (pw_i x46)]) rfl rfl rfl rfl ?_
                            refine pw_inc E (pc' := 149) (ls' := [some (.ref 141), some (pw_i mo), some (pw_i wt), some (pw_i (k34_3 + 1)), some (pw_i (k34_4 + 0)), some (pw_i x46), some (pw_i (k34_6 + 1)), some (pw_i ((12 * k34_6) + mo)), some (pw_i x46)]) rfl rfl rfl rfl ?_
                            refine pw_goto E (pc' := 34) rfl (by decide) ?_
                            exact ih34 _ (by omega) (k34_3 + 1) (k34_4 + 0) (x46) (k34_6 + 1) (some (pw_i ((12 * k34_6) + mo))) (some (pw_i x46))  (by omega) (by omega) (by omega) (by omega) (by omega) (by omega) (by omega) (by omega) (by omega) rfl
                        · intro hc50
                          change ¬ (x46 ≤ (0 : Int)) at hc50
                          refine pw_ld E (pc' := 123) (st' := [pw_i 1, pw_i k34_4]) rfl (fun _ => rfl) ?_
                          refine pw_goto E (pc' := 127) rfl (by decide) ?_
                          refine pw_add E (pc' := 128) rfl rfl ?_
                          refine pw_nm (fun x51 hx51a hx51b => ?_)
                          refine pw_ist E (pc' := 130) (ls' := [some (.ref 141), some (pw_i mo), some (pw_i wt), some (pw_i (k34_3 + 1)), some (pw_i x51), some (pw_i k34_5), some (pw_i k34_6), some (pw_i ((12 * k34_6) + mo)), some (pw_i x46)]) rfl rfl rfl rfl ?_
                          refine pw_ld E (pc' := 132) (st' := [pw_i x46]) rfl (fun _ => rfl) ?_
                          refine pw_ld E (pc' := 134) (st' := [pw_i k34_5, pw_i x46]) rfl (fun _ => rfl) ?_
                          refine pw_if2 E (pc' := 142) rfl (by decide) (by omega) (by omega) (by omega) (by omega) ?_ ?_
                          · intro hc52
                            change x46 ≤ k34_5 at hc52
                            refine pw_ld E (pc' := 144) (st' := [pw_i k34_5]) rfl (fun _ => rfl) ?_
                            refine pw_ist E (pc' := 146) (ls' := [some (.ref 141), some (pw_i mo), some (pw_i wt), some (pw_i (k34_3 + 1)), some (pw_i x51), some (pw_i k34_5), some (pw_i k34_6), some (pw_i ((12 * k34_6) + mo)), some (pw_i x46)]) rfl rfl rfl rfl ?_
                            refine pw_inc E (pc' := 149) (ls' := [some (.ref 141), some (pw_i mo), some (pw_i wt), some (pw_i (k34_3 + 1)), some (pw_i x51), some (pw_i k34_5), some (pw_i (k34_6 + 1)), some (pw_i ((12 * k34_6) + mo)), some (pw_i x46)]) rfl rfl rfl rfl ?_
                            refine pw_goto E (pc' := 34) rfl (by decide) ?_
                            exact ih34 _ (by omega) (k34_3 + 1) (x51) (k34_5) (k34_6 + 1) (some (pw_i ((12 * k34_6) + mo))) (some (pw_i x46))  (by omega) (by omega) (by omega) (by omega) (by omega) (by omega) (by omega) (by omega) (by omega) rfl
                          · intro hc53
                            change ¬ (x46 ≤ k34_5) at hc53
                            refine pw_ld E (pc' := 139) (st' := [pw_i x46]) rfl (fun _ => rfl) ?_
                            refine pw_goto E (pc' := 144) rfl (by decide) ?_
                            refine pw_ist E (pc' := 146) (ls' := [some (.ref 141), some (pw_i mo), some (pw_i wt), some (pw_i (k34_3 + 1)), some (pw_i x51), some (pw_i x46), some (pw_i k34_6), some (pw_i ((12 * k34_6) + mo)), some (pw_i x46)]) rfl rfl rfl rfl ?_
                            refine pw_inc E (pc' := 149) (ls' := [some (.ref 141), some (pw_i mo), some (pw_i wt), some (pw_i (k34_3 + 1)), some (pw_i x51), some (pw_i x46), some (pw_i (k34_6 + 1)), some (pw_i ((12 * k34_6) + mo)), some (pw_i x46)]) rfl rfl rfl rfl ?_
                            refine pw_goto E (pc' := 34) rfl (by decide) ?_
                            exact ih34 _ (by omega) (k34_3 + 1) (x51) (x46) (k34_6 + 1) (some (pw_i ((12 * k34_6) + mo))) (some (pw_i x46))  (by omega) (by omega) (by omega) (by omega) (by omega) (by omega) (by omega) (by omega) (by omega) rfl
          exact L34 _ (0) (0) (0) (0) (none) (none)  (by omega) (by omega) (by omega) (by omega) (by omega) (by omega) (by omega) (by omega) (by omega) rfl
        · intro hc54
          change ¬ (x10 ≠ (0 : Int)) at hc54
          exfalso; omega
      · skip
        refine pw_if E (pc' := 23) rfl (by decide) (by omega) (by omega) ?_ ?_
        · intro hc56
          change x10 ≠ (0 : Int) at hc56
          exfalso; omega
        · intro hc57
          change ¬ (x10 ≠ (0 : Int)) at hc57
          refine pw_ld E (pc' := 22) (st' := [pw_i ((-1))]) rfl (fun _ => rfl) ?_
          refine pw_iret E rfl ?_
          exact ⟨h1I, h1F, ⟨_, rfl, by omega, by omega⟩⟩
  · skip
    refine pw_if E (pc' := 21) rfl (by decide) (by omega) (by omega) ?_ ?_
    · intro hc59
      change x4 = (0 : Int) at hc59
      refine pw_ld E (pc' := 22) (st' := [pw_i ((-1))]) rfl (fun _ => rfl) ?_
      refine pw_iret E rfl ?_
      exact ⟨h1I, h1F, ⟨_, rfl, by omega, by omega⟩⟩
    · intro hc60
      change ¬ (x4 = (0 : Int)) at hc60
      exfalso; omega
set_option maxHeartbeats 4000000 in
theorem cm_305 {X : List (Nat × List Value)} {d : Nat} {h : pm_H} (hd : 2 ≤ d) (I : pw_I h) (mo : Int) (hmo1 : 1 ≤ mo) (hmo2 : mo ≤ 11) : pw X d h 305 0 [some (.ref 141), some (pw_i mo), none, none, none, none, none, none, none] [] (fun h' v => h = h' ∧ ∃ a : Int, v = .inl (some (pw_i a)) ∧ (-2147483648) ≤ a ∧ a ≤ 2147483647) := by
  have E : pm_ent 305 = some (2, 9, 12, 0, pmc_305) := rfl
  refine pw_ld E (pc' := 1) (st' := [.ref 141]) rfl (fun _ => rfl) ?_
  refine pw_getR (b := 152) I E (c := 125) (k := 16) (pc' := 4) rfl rfl rfl rfl rfl rfl rfl ?_
  refine pw_ld E (pc' := 5) (st' := [pw_i mo, .ref 152]) rfl (fun _ => rfl) ?_
  refine pw_ald2 I E (c := 136) (pc' := 6) rfl rfl rfl (by decide) rfl (by decide) (by omega) (by omega) rfl (fun hf1a hf1b => ?_)
  refine pw_ld E (pc' := 7) (st' := [.ref 141, pw_i (pw_g h 136 (mo.toNat))]) rfl (fun _ => rfl) ?_
  refine pw_getR (b := 152) I E (c := 125) (k := 16) (pc' := 10) rfl rfl rfl rfl rfl rfl rfl ?_
  refine pw_ld E (pc' := 11) (st' := [pw_i mo, .ref 152, pw_i (pw_g h 136 (mo.toNat))]) rfl (fun _ => rfl) ?_
  refine pw_ld E (pc' := 12) (st' := [pw_i 1, pw_i mo, .ref 152, pw_i (pw_g h 136 (mo.toNat))]) rfl (fun _ => rfl) ?_
  refine pw_sub E (pc' := 13) rfl rfl ?_
  refine pw_ald2 I E (c := 136) (pc' := 14) rfl rfl rfl (by decide) rfl (by decide) (by omega) (by omega) rfl (fun hf2a hf2b => ?_)
  refine pw_sub E (pc' := 15) rfl rfl ?_
  refine pw_istn E (pc' := 16) (ls' := [some (.ref 141), some (pw_i mo), some (pw_i ((pw_g h 136 (mo.toNat)) - (pw_g h 136 ((mo - 1).toNat)))), none, none, none, none, none, none]) rfl rfl rfl rfl ?_
  refine pw_ld E (pc' := 17) (st' := [.ref 141]) rfl (fun _ => rfl) ?_
  refine pw_getR (b := 152) I E (c := 125) (k := 16) (pc' := 20) rfl rfl rfl rfl rfl rfl rfl ?_
  refine pw_bip E (pc' := 22) rfl rfl (by decide) ?_
  refine pw_ld E (pc' := 23) (st' := [pw_i mo, pw_i 12, .ref 152]) rfl (fun _ => rfl) ?_
  refine pw_add E (pc' := 24) rfl rfl ?_
  refine pw_ald2 I E (c := 136) (pc' := 25) rfl rfl rfl (by decide) rfl (by decide) (by omega) (by omega) rfl (fun hf3a hf3b => ?_)
  refine pw_ld E (pc' := 26) (st' := [.ref 141, pw_i (pw_g h 136 ((12 + mo).toNat))]) rfl (fun _ => rfl) ?_
  refine pw_getR (b := 152) I E (c := 125) (k := 16) (pc' := 29) rfl rfl rfl rfl rfl rfl rfl ?_
  refine pw_bip E (pc' := 31) rfl rfl (by decide) ?_
  refine pw_ld E (pc' := 32) (st' := [pw_i mo, pw_i 12, .ref 152, pw_i (pw_g h 136 ((12 + mo).toNat))]) rfl (fun _ => rfl) ?_
  refine pw_add E (pc' := 33) rfl rfl ?_
  refine pw_ld E (pc' := 34) (st' := [pw_i 1, pw_i (12 + mo), .ref 152, pw_i (pw_g h 136 ((12 + mo).toNat))]) rfl (fun _ => rfl) ?_
  refine pw_sub E (pc' := 35) rfl rfl ?_
  refine pw_ald2 I E (c := 136) (pc' := 36) rfl rfl rfl (by decide) rfl (by decide) (by omega) (by omega) rfl (fun hf4a hf4b => ?_)
  refine pw_sub E (pc' := 37) rfl rfl ?_
  refine pw_istn E (pc' := 38) (ls' := [some (.ref 141), some (pw_i mo), some (pw_i ((pw_g h 136 (mo.toNat)) - (pw_g h 136 ((mo - 1).toNat)))), some (pw_i ((pw_g h 136 ((12 + mo).toNat)) - (pw_g h 136 (((12 + mo) - 1).toNat)))), none, none, none, none, none]) rfl rfl rfl rfl ?_
  refine pw_ld E (pc' := 39) (st' := [pw_i ((pw_g h 136 (mo.toNat)) - (pw_g h 136 ((mo - 1).toNat)))]) rfl (fun _ => rfl) ?_
  refine pw_ld E (pc' := 40) (st' := [pw_i ((pw_g h 136 ((12 + mo).toNat)) - (pw_g h 136 (((12 + mo) - 1).toNat))), pw_i ((pw_g h 136 (mo.toNat)) - (pw_g h 136 ((mo - 1).toNat)))]) rfl (fun _ => rfl) ?_
  refine pw_if2 E (pc' := 45) rfl (by decide) (by omega) (by omega) (by omega) (by omega) ?_ ?_
  · intro hc5
    change (pw_g h 136 (mo.toNat)) - (pw_g h 136 ((mo - 1).toNat)) ≠ (pw_g h 136 ((12 + mo).toNat)) - (pw_g h 136 (((12 + mo) - 1).toNat)) at hc5
    refine pw_ld E (pc' := 46) (st' := [pw_i ((pw_g h 136 (mo.toNat)) - (pw_g h 136 ((mo - 1).toNat)))]) rfl (fun _ => rfl) ?_
    refine pw_ld E (pc' := 47) (st' := [pw_i ((pw_g h 136 ((12 + mo).toNat)) - (pw_g h 136 (((12 + mo) - 1).toNat))), pw_i ((pw_g h 136 (mo.toNat)) - (pw_g h 136 ((mo - 1).toNat)))]) rfl (fun _ => rfl) ?_
    refine pw_if2 E (pc' := 54) rfl (by decide) (by omega) (by omega) (by omega) (by omega) ?_ ?_
    · intro hc6
      change (pw_g h 136 (mo.toNat)) - (pw_g h 136 ((mo - 1).toNat)) ≤ (pw_g h 136 ((12 + mo).toNat)) - (pw_g h 136 (((12 + mo) - 1).toNat)) at hc6
      refine pw_ld E (pc' := 55) (st' := [pw_i 1]) rfl (fun _ => rfl) ?_
      refine pw_ist E (pc' := 57) (ls' := [some (.ref 141), some (pw_i mo), some (pw_i ((pw_g h 136 (mo.toNat)) - (pw_g h 136 ((mo - 1).toNat)))), some (pw_i ((pw_g h 136 ((12 + mo).toNat)) - (pw_g h 136 (((12 + mo) - 1).toNat)))), some (pw_i 1), none, none, none, none]) rfl rfl rfl rfl ?_
      refine pw_ld E (pc' := 58) (st' := [pw_i 0]) rfl (fun _ => rfl) ?_
      refine pw_ist E (pc' := 60) (ls' := [some (.ref 141), some (pw_i mo), some (pw_i ((pw_g h 136 (mo.toNat)) - (pw_g h 136 ((mo - 1).toNat)))), some (pw_i ((pw_g h 136 ((12 + mo).toNat)) - (pw_g h 136 (((12 + mo) - 1).toNat)))), some (pw_i 1), some (pw_i 0), none, none, none]) rfl rfl rfl rfl ?_
      refine pw_ld E (pc' := 61) (st' := [pw_i 0]) rfl (fun _ => rfl) ?_
      refine pw_ist E (pc' := 63) (ls' := [some (.ref 141), some (pw_i mo), some (pw_i ((pw_g h 136 (mo.toNat)) - (pw_g h 136 ((mo - 1).toNat)))), some (pw_i ((pw_g h 136 ((12 + mo).toNat)) - (pw_g h 136 (((12 + mo) - 1).toNat)))), some (pw_i 1), some (pw_i 0), some (pw_i 0), none, none]) rfl rfl rfl rfl ?_
      refine pw_ld E (pc' := 64) (st' := [pw_i 0]) rfl (fun _ => rfl) ?_
      refine pw_ist E (pc' := 66) (ls' := [some (.ref 141), some (pw_i mo), some (pw_i ((pw_g h 136 (mo.toNat)) - (pw_g h 136 ((mo - 1).toNat)))), some (pw_i ((pw_g h 136 ((12 + mo).toNat)) - (pw_g h 136 (((12 + mo) - 1).toNat)))), some (pw_i 1), some (pw_i 0), some (pw_i 0), some (pw_i 0), none]) rfl rfl rfl rfl ?_
      have L66 : ∀ (n66 : Nat) (k66_5 : Int) (k66_6 : Int) (k66_7 : Int) (k66_8 : Option Value), (-2147483648) ≤ k66_5 → k66_5 ≤ 2147483647 → (-2147483648) ≤ k66_6 → k66_6 ≤ 2147483647 → 0 ≤ k66_7 → k66_7 ≤ 24 → (24 - k66_7).toNat = n66 → pw X d h 305 66 [some (.ref 141), some (pw_i mo), some (pw_i ((pw_g h 136 (mo.toNat)) - (pw_g h 136 ((mo - 1).toNat)))), some (pw_i ((pw_g h 136 ((12 + mo).toNat)) - (pw_g h 136 (((12 + mo) - 1).toNat)))), some (pw_i 1), some (pw_i k66_5), some (pw_i k66_6), some (pw_i k66_7), k66_8] [] (fun h' v => h = h' ∧ ∃ a : Int, v = .inl (some (pw_i a)) ∧ (-2147483648) ≤ a ∧ a ≤ 2147483647) := by
        intro n66
        induction n66 using Nat.strongRecOn with
        | ind n66 ih66 =>
          intro k66_5 k66_6 k66_7 k66_8 k66_5a k66_5b k66_6a k66_6b k66_7a k66_7b hm66
          refine pw_ld E (pc' := 68) (st' := [pw_i k66_7]) rfl (fun _ => rfl) ?_
          refine pw_bip E (pc' := 70) rfl rfl (by decide) ?_
          refine pw_if2 E (pc' := 167) rfl (by decide) (by omega) (by omega) (by decide) (by decide) ?_ ?_
          · intro hc7
            change (24 : Int) ≤ k66_7 at hc7
            refine pw_ld E (pc' := 169) (st' := [pw_i k66_5]) rfl (fun _ => rfl) ?_
            refine pw_ld E (pc' := 171) (st' := [pw_i k66_6, pw_i k66_5]) rfl (fun _ => rfl) ?_
            refine pw_mul E (pc' := 172) rfl rfl ?_
            refine pw_nm (fun x8 hx8a hx8b => ?_)
            refine pw_iret E rfl ?_
            exact ⟨rfl, ⟨_, rfl, by omega, by omega⟩⟩
          · intro hc9
            change ¬ ((24 : Int) ≤ k66_7) at hc9
            refine pw_ld E (pc' := 74) (st' := [.ref 141]) rfl (fun _ => rfl) ?_
            refine pw_ld E (pc' := 76) (st' := [pw_i k66_7, .ref 141]) rfl (fun _ => rfl) ?_
            refine pw_ld E (pc' := 77) (st' := [pw_i mo, pw_i k66_7, .ref 141]) rfl (fun _ => rfl) ?_
            refine pw_ld E (pc' := 78) (st' := [pw_i 1, pw_i mo, pw_i k66_7, .ref 141]) rfl (fun _ => rfl) ?_
            refine pw_sub E (pc' := 79) rfl rfl ?_
            refine pw_ld E (pc' := 80) (st' := [pw_i mo, pw_i (mo - 1), pw_i k66_7, .ref 141]) rfl (fun _ => rfl) ?_
            obtain ⟨f10l, f10h, -⟩ := pw_obj (c := 125) I rfl
            refine pw_call (m' := 214) (As := [.ref 141, pw_i k66_7, pw_i (mo - 1), pw_i mo]) (rest := []) (ls'' := [some (.ref 141), some (pw_i k66_7), some (pw_i (mo - 1)), some (pw_i mo)]) (Nat.le_trans (by decide) hd) E rfl (fun _ => pw_iV rfl rfl rfl rfl (pw_cellI f10h rfl)) (rfl : pm_ent 214 = some (4, 4, 12, 1, pmc_214)) rfl rfl (cm_214 (pw_dp hd (by decide)) I (k66_7) (by omega) (by omega) (mo - 1) (by omega) (by omega) (mo) (by omega) (by omega)) ?_
            rintro u12 v11 ⟨rfl, x13, rfl, hx13a, hx13b⟩
            refine ⟨_, rfl, ?_⟩
            show pw X d h 305 83 [some (.ref 141), some (pw_i mo), some (pw_i ((pw_g h 136 (mo.toNat)) - (pw_g h 136 ((mo - 1).toNat)))), some (pw_i ((pw_g h 136 ((12 + mo).toNat)) - (pw_g h 136 (((12 + mo) - 1).toNat)))), some (pw_i 1), some (pw_i k66_5), some (pw_i k66_6), some (pw_i k66_7), k66_8] [pw_i x13] _
            refine pw_ist E (pc' := 85) (ls' := [some (.ref 141), some (pw_i mo), some (pw_i ((pw_g h 136 (mo.toNat)) - (pw_g h 136 ((mo - 1).toNat)))), some (pw_i ((pw_g h 136 ((12 + mo).toNat)) - (pw_g h 136 (((12 + mo) - 1).toNat)))), some (pw_i 1), some (pw_i k66_5), some (pw_i k66_6), some (pw_i k66_7), some (pw_i x13)]) rfl rfl rfl rfl ?_
            refine pw_ld E (pc' := 87) (st' := [pw_i k66_5]) rfl (fun _ => rfl) ?_
            refine pw_ld E (pc' := 89) (st' := [pw_i x13, pw_i k66_5]) rfl (fun _ => rfl) ?_
            refine pw_if E (pc' := 130) rfl (by decide) (by omega) (by omega) ?_ ?_
            · intro hc14
              change x13 = (0 : Int) at hc14
              refine pw_ld E (pc' := 131) (st' := [pw_i 0, pw_i k66_5]) rfl (fun _ => rfl) ?_
              refine pw_add E (pc' := 132) rfl rfl ?_
              refine pw_ist E (pc' := 134) (ls' := [some (.ref 141), some (pw_i mo), some (pw_i ((pw_g h 136 (mo.toNat)) - (pw_g h 136 ((mo - 1).toNat)))), some (pw_i ((pw_g h 136 ((12 + mo).toNat)) - (pw_g h 136 (((12 + mo) - 1).toNat)))), some (pw_i 1), some (pw_i (k66_5 + 0)), some (pw_i k66_6), some (pw_i k66_7), some (pw_i x13)]) rfl rfl rfl rfl ?_
              refine pw_ld E (pc' := 136) (st' := [pw_i k66_6]) rfl (fun _ => rfl) ?_
              refine pw_ld E (pc' := 138) (st' := [pw_i x13, pw_i k66_6]) rfl (fun _ => rfl) ?_
              refine pw_if E (pc' := 157) rfl (by decide) (by omega) (by omega) ?_ ?_
              · intro hc15
                change x13 = (0 : Int) at hc15
                refine pw_ld E (pc' := 158) (st' := [pw_i 0, pw_i k66_6]) rfl (fun _ => rfl) ?_
                refine pw_add E (pc' := 159) rfl rfl ?_
                refine pw_ist E (pc' := 161) (ls' := [some (.ref 141), some (pw_i mo), some (pw_i ((pw_g h 136 (mo.toNat)) - (pw_g h 136 ((mo - 1).toNat)))), some (pw_i ((pw_g h 136 ((12 + mo).toNat)) - (pw_g h 136 (((12 + mo) - 1).toNat)))), some (pw_i 1), some (pw_i (k66_5 + 0)), some (pw_i (k66_6 + 0)), some (pw_i k66_7), some (pw_i x13)]) rfl rfl rfl rfl ?_
                refine pw_inc E (pc' := 164) (ls' := [some (.ref 141), some (pw_i mo), some (pw_i ((pw_g h 136 (mo.toNat)) - (pw_g h 136 ((mo - 1).toNat)))), some (pw_i ((pw_g h 136 ((12 + mo).toNat)) - (pw_g h 136 (((12 + mo) - 1).toNat)))), some (pw_i 1), some (pw_i (k66_5 + 0)), some (pw_i (k66_6 + 0)), some (pw_i (k66_7 + 1)), some (pw_i x13)]) rfl rfl rfl rfl ?_
                refine pw_goto E (pc' := 66) rfl (by decide) ?_
                exact ih66 _ (by omega) (k66_5 + 0) (k66_6 + 0) (k66_7 + 1) (some (pw_i x13))  (by omega) (by omega) (by omega) (by omega) (by omega) (by omega)  rfl
              · intro hc16
                change ¬ (x13 = (0 : Int)) at hc16
                exfalso; omega
            · intro hc17
              change ¬ (x13 = (0 : Int)) at hc17
              refine pw_ld E (pc' := 93) (st' := [.ref 141, pw_i k66_5]) rfl (fun _ => rfl) ?_
              refine pw_getR (b := 148) I E (c := 125) (k := 11) (pc' := 96) rfl rfl rfl rfl rfl rfl rfl ?_
              refine pw_ld E (pc' := 98) (st' := [pw_i k66_7, .ref 148, pw_i k66_5]) rfl (fun _ => rfl) ?_
              refine pw_ald2 I E (c := 132) (pc' := 99) rfl rfl rfl (by decide) rfl (by decide) (by omega) (by omega) rfl (fun hf18a hf18b => ?_)
              refine pw_ld E (pc' := 101) (st' := [pw_i 1, pw_i (pw_g h 132 (k66_7.toNat)), pw_i k66_5]) rfl (fun _ => rfl) ?_
              refine pw_if2 E (pc' := 130) rfl (by decide) (by omega) (by omega) (by decide) (by decide) ?_ ?_
              · intro hc19
                change pw_g h 132 (k66_7.toNat) ≠ (1 : Int) at hc19
                refine pw_ld E (pc' := 131) (st' := [pw_i 0, pw_i k66_5]) rfl (fun _ => rfl) ?_
                refine pw_add E (pc' := 132) rfl rfl ?_
                refine pw_ist E (pc' := 134) (ls' := [some (.ref 141), some (pw_i mo), some (pw_i ((pw_g h 136 (mo.toNat)) - (pw_g h 136 ((mo - 1).toNat)))), some (pw_i ((pw_g h 136 ((12 + mo).toNat)) - (pw_g h 136 (((12 + mo) - 1).toNat)))), some (pw_i 1), some (pw_i (k66_5 + 0)), some (pw_i k66_6), some (pw_i k66_7), some (pw_i x13)]) rfl rfl rfl rfl ?_
                refine pw_ld E (pc' := 136) (st' := [pw_i k66_6]) rfl (fun _ => rfl) ?_
                refine pw_ld E (pc' := 138) (st' := [pw_i x13, pw_i k66_6]) rfl (fun _ => rfl) ?_
                refine pw_if E (pc' := 157) rfl (by decide) (by omega) (by omega) ?_ ?_
                · intro hc20
                  change x13 = (0 : Int) at hc20
                  exfalso; omega
                · intro hc21
                  change ¬ (x13 = (0 : Int)) at hc21
                  refine pw_ld E (pc' := 142) (st' := [.ref 141, pw_i k66_6]) rfl (fun _ => rfl) ?_
                  refine pw_getR (b := 148) I E (c := 125) (k := 11) (pc' := 145) rfl rfl rfl rfl rfl rfl rfl ?_
                  refine pw_ld E (pc' := 147) (st' := [pw_i k66_7, .ref 148, pw_i k66_6]) rfl (fun _ => rfl) ?_
                  refine pw_ald2 I E (c := 132) (pc' := 148) rfl rfl rfl (by decide) rfl (by decide) (by omega) (by omega) rfl (fun hf22a hf22b => ?_)
                  refine pw_ld E (pc' := 150) (st' := [pw_i 1, pw_i (pw_g h 132 (k66_7.toNat)), pw_i k66_6]) rfl (fun _ => rfl) ?_
                  refine pw_if2 E (pc' := 157) rfl (by decide) (by omega) (by omega) (by decide) (by decide) ?_ ?_
                  · intro hc23
                    change pw_g h 132 (k66_7.toNat) = (1 : Int) at hc23
                    exfalso; omega
                  · intro hc24
                    change ¬ (pw_g h 132 (k66_7.toNat) = (1 : Int)) at hc24
                    refine pw_ld E (pc' := 154) (st' := [pw_i 1, pw_i k66_6]) rfl (fun _ => rfl) ?_
                    refine pw_goto E (pc' := 158) rfl (by decide) ?_
                    refine pw_add E (pc' := 159) rfl rfl ?_
                    refine pw_nm (fun x25 hx25a hx25b => ?_)
                    refine pw_ist E (pc' := 161) (ls' := [some (.ref 141), some (pw_i mo), some (pw_i ((pw_g h 136 (mo.toNat)) - (pw_g h 136 ((mo - 1).toNat)))), some (pw_i ((pw_g h 136 ((12 + mo).toNat)) - (pw_g h 136 (((12 + mo) - 1).toNat)))), some (pw_i 1), some (pw_i (k66_5 + 0)), some (pw_i x25), some (pw_i k66_7), some (pw_i x13)]) rfl rfl rfl rfl ?_
                    refine pw_inc E (pc' := 164) (ls' := [some (.ref 141), some (pw_i mo), some (pw_i ((pw_g h 136 (mo.toNat)) - (pw_g h 136 ((mo - 1).toNat)))), some (pw_i ((pw_g h 136 ((12 + mo).toNat)) - (pw_g h 136 (((12 + mo) - 1).toNat)))), some (pw_i 1), some (pw_i (k66_5 + 0)), some (pw_i x25), some (pw_i (k66_7 + 1)), some (pw_i x13)]) rfl rfl rfl rfl ?_
                    refine pw_goto E (pc' := 66) rfl (by decide) ?_
                    exact ih66 _ (by omega) (k66_5 + 0) (x25) (k66_7 + 1) (some (pw_i x13))  (by omega) (by omega) (by omega) (by omega) (by omega) (by omega)  rfl
              · intro hc26
                change ¬ (pw_g h 132 (k66_7.toNat) ≠ (1 : Int)) at hc26
                refine pw_ld E (pc' := 105) (st' := [.ref 141, pw_i k66_5]) rfl (fun _ => rfl) ?_
                refine pw_getR (b := 149) I E (c := 125) (k := 12) (pc' := 108) rfl rfl rfl rfl rfl rfl rfl ?_
                refine pw_ld E (pc' := 110) (st' := [pw_i k66_7, .ref 149, pw_i k66_5]) rfl (fun _ => rfl) ?_
                refine pw_ald2 I E (c := 133) (pc' := 111) rfl rfl rfl (by decide) rfl (by decide) (by omega) (by omega) rfl (fun hf27a hf27b => ?_)
                refine pw_ld E (pc' := 112) (st' := [.ref 141, pw_i (pw_g h 133 (k66_7.toNat)), pw_i k66_5]) rfl (fun _ => rfl) ?_
                refine pw_getR (b := 152) I E (c := 125) (k := 16) (pc' := 115) rfl rfl rfl rfl rfl rfl rfl ?_
                refine pw_bip E (pc' := 117) rfl rfl (by decide) ?_
                refine pw_ld E (pc' := 119) (st' := [pw_i 1, pw_i 12, .ref 152, pw_i (pw_g h 133 (k66_7.toNat)), pw_i k66_5]) rfl (fun _ => rfl) ?_
                refine pw_mul E (pc' := 120) rfl rfl ?_
                refine pw_ld E (pc' := 121) (st' := [pw_i mo, pw_i (12 * 1), .ref 152, pw_i (pw_g h 133 (k66_7.toNat)), pw_i k66_5]) rfl (fun _ => rfl) ?_
                refine pw_add E (pc' := 122) rfl rfl ?_
                refine pw_ald2 I E (c := 136) (pc' := 123) rfl rfl rfl (by decide) rfl (by decide) (by omega) (by omega) rfl (fun hf28a hf28b => ?_)
                refine pw_if2 E (pc' := 130) rfl (by decide) (by omega) (by omega) (by omega) (by omega) ?_ ?_
                · intro hc29
                  change pw_g h 136 (((12 * 1) + mo).toNat) ≤ pw_g h 133 (k66_7.toNat) at hc29
                  refine pw_ld E (pc' := 131) (st' := [pw_i 0, pw_i k66_5]) rfl (fun _ => rfl) ?_
                  refine pw_add E (pc' := 132) rfl rfl ?_
                  refine pw_ist E (pc' := 134) (ls' := [some (.ref 141), some (pw_i mo), some (pw_i ((pw_g h 136 (mo.toNat)) - (pw_g h 136 ((mo - 1).toNat)))), some (pw_i ((pw_g h 136 ((12 + mo).toNat)) - (pw_g h 136 (((12 + mo) - 1).toNat)))), some (pw_i 1), some (pw_i (k66_5 + 0)), some (pw_i k66_6), some (pw_i k66_7), some (pw_i x13)]) rfl rfl rfl rfl ?_
                  refine pw_ld E (pc' := 136) (st' := [pw_i k66_6]) rfl (fun _ => rfl) ?_
                  refine pw_ld E (pc' := 138) (st' := [pw_i x13, pw_i k66_6]) rfl (fun _ => rfl) ?_
                  refine pw_if E (pc' := 157) rfl (by decide) (by omega) (by omega) ?_ ?_
                  · intro hc30
                    change x13 = (0 : Int) at hc30
                    exfalso; omega
                  · intro hc31
                    change ¬ (x13 = (0 : Int)) at hc31
                    refine pw_ld E (pc' := 142) (st' := [.ref 141, pw_i k66_6]) rfl (fun _ => rfl) ?_
                    refine pw_getR (b := 148) I E (c := 125) (k := 11) (pc' := 145) rfl rfl rfl rfl rfl rfl rfl ?_
                    refine pw_ld E (pc' := 147) (st' := [pw_i k66_7, .ref 148, pw_i k66_6]) rfl (fun _ => rfl) ?_
                    refine pw_ald2 I E (c := 132) (pc' := 148) rfl rfl rfl (by decide) rfl (by decide) (by omega) (by omega) rfl (fun hf32a hf32b => ?_)
                    refine pw_ld E (pc' := 150) (st' := [pw_i 1, pw_i (pw_g h 132 (k66_7.toNat)), pw_i k66_6]) rfl (fun _ => rfl) ?_
                    refine pw_if2 E (pc' := 157) rfl (by decide) (by omega) (by omega) (by decide) (by decide) ?_ ?_
                    · intro hc33
                      change pw_g h 132 (k66_7.toNat) = (1 : Int) at hc33
                      refine pw_ld E (pc' := 158) (st' := [pw_i 0, pw_i k66_6]) rfl (fun _ => rfl) ?_
                      refine pw_add E (pc' := 159) rfl rfl ?_
                      refine pw_ist E (pc' := 161) (ls' := [some (.ref 141), some (pw_i mo), some (pw_i ((pw_g h 136 (mo.toNat)) - (pw_g h 136 ((mo - 1).toNat)))), some (pw_i ((pw_g h 136 ((12 + mo).toNat)) - (pw_g h 136 (((12 + mo) - 1).toNat)))), some (pw_i 1), some (pw_i (k66_5 + 0)), some (pw_i (k66_6 + 0)), some (pw_i k66_7), some (pw_i x13)]) rfl rfl rfl rfl ?_
                      refine pw_inc E (pc' := 164) (ls' := [some (.ref 141), some (pw_i mo), some (pw_i ((pw_g h 136 (mo.toNat)) - (pw_g h 136 ((mo - 1).toNat)))), some (pw_i ((pw_g h 136 ((12 + mo).toNat)) - (pw_g h 136 (((12 + mo) - 1).toNat)))), some (pw_i 1), some (pw_i (k66_5 + 0)), some (pw_i (k66_6 + 0)), some (pw_i (k66_7 + 1)), some (pw_i x13)]) rfl rfl rfl rfl ?_
                      refine pw_goto E (pc' := 66) rfl (by decide) ?_
                      exact ih66 _ (by omega) (k66_5 + 0) (k66_6 + 0) (k66_7 + 1) (some (pw_i x13))  (by omega) (by omega) (by omega) (by omega) (by omega) (by omega)  rfl
                    · intro hc34
                      change ¬ (pw_g h 132 (k66_7.toNat) = (1 : Int)) at hc34
                      exfalso; omega
                · intro hc35
                  change ¬ (pw_g h 136 (((12 * 1) + mo).toNat) ≤ pw_g h 133 (k66_7.toNat)) at hc35
                  refine pw_ld E (pc' := 127) (st' := [pw_i 1, pw_i k66_5]) rfl (fun _ => rfl) ?_
                  refine pw_goto E (pc' := 131) rfl (by decide) ?_
                  refine pw_add E (pc' := 132) rfl rfl ?_
                  refine pw_nm (fun x36 hx36a hx36b => ?_)
                  refine pw_ist E (pc' := 134) (ls' := [some (.ref 141), some (pw_i mo), some (pw_i ((pw_g h 136 (mo.toNat)) - (pw_g h 136 ((mo - 1).toNat)))), some (pw_i ((pw_g h 136 ((12 + mo).toNat)) - (pw_g h 136 (((12 + mo) - 1).toNat)))), some (pw_i 1), some (pw_i x36), some (pw_i k66_6), some (pw_i k66_7), some (pw_i x13)]) rfl rfl rfl rfl ?_
                  refine pw_ld E (pc' := 136) (st' := [pw_i k66_6]) rfl (fun _ => rfl) ?_
                  refine pw_ld E (pc' := 138) (st' := [pw_i x13, pw_i k66_6]) rfl (fun _ => rfl) ?_
                  refine pw_if E (pc' := 157) rfl (by decide) (by omega) (by omega) ?_ ?_
                  · intro hc37
                    change x13 = (0 : Int) at hc37
                    exfalso; omega
                  · intro hc38
                    change ¬ (x13 = (0 : Int)) at hc38
                    refine pw_ld E (pc' := 142) (st' := [.ref 141, pw_i k66_6]) rfl (fun _ => rfl) ?_
                    refine pw_getR (b := 148) I E (c := 125) (k := 11) (pc' := 145) rfl rfl rfl rfl rfl rfl rfl ?_
                    refine pw_ld E (pc' := 147) (st' := [pw_i k66_7, .ref 148, pw_i k66_6]) rfl (fun _ => rfl) ?_
                    refine pw_ald2 I E (c := 132) (pc' := 148) rfl rfl rfl (by decide) rfl (by decide) (by omega) (by omega) rfl (fun hf39a hf39b => ?_)
                    refine pw_ld E (pc' := 150) (st' := [pw_i 1, pw_i (pw_g h 132 (k66_7.toNat)), pw_i k66_6]) rfl (fun _ => rfl) ?_
                    refine pw_if2 E (pc' := 157) rfl (by decide) (by omega) (by omega) (by decide) (by decide) ?_ ?_
                    · intro hc40
                      change pw_g h 132 (k66_7.toNat) = (1 : Int) at hc40
                      refine pw_ld E (pc' := 158) (st' := [pw_i 0, pw_i k66_6]) rfl (fun _ => rfl) ?_
                      refine pw_add E (pc' := 159) rfl rfl ?_
                      refine pw_ist E (pc' := 161) (ls' := [some (.ref 141), some (pw_i mo), some (pw_i ((pw_g h 136 (mo.toNat)) - (pw_g h 136 ((mo - 1).toNat)))), some (pw_i ((pw_g h 136 ((12 + mo).toNat)) - (pw_g h 136 (((12 + mo) - 1).toNat)))), some (pw_i 1), some (pw_i x36), some (pw_i (k66_6 + 0)), some (pw_i k66_7), some (pw_i x13)]) rfl rfl rfl rfl ?_
                      refine pw_inc E (pc' := 164) (ls' := [some (.ref 141), some (pw_i mo), some (pw_i ((pw_g h 136 (mo.toNat)) - (pw_g h 136 ((mo - 1).toNat)))), some (pw_i ((pw_g h 136 ((12 + mo).toNat)) - (pw_g h 136 (((12 + mo) - 1).toNat)))), some (pw_i 1), some (pw_i x36), some (pw_i (k66_6 + 0)), some (pw_i (k66_7 + 1)), some (pw_i x13)]) rfl rfl rfl rfl ?_
                      refine pw_goto E (pc' := 66) rfl (by decide) ?_
                      exact ih66 _ (by omega) (x36) (k66_6 + 0) (k66_7 + 1) (some (pw_i x13))  (by omega) (by omega) (by omega) (by omega) (by omega) (by omega)  rfl
                    · intro hc41
                      change ¬ (pw_g h 132 (k66_7.toNat) = (1 : Int)) at hc41
                      exfalso; omega
      exact L66 _ (0) (0) (0) (none)  (by omega) (by omega) (by omega) (by omega) (by omega) (by omega)  rfl
    · intro hc42
      change ¬ ((pw_g h 136 (mo.toNat)) - (pw_g h 136 ((mo - 1).toNat)) ≤ (pw_g h 136 ((12 + mo).toNat)) - (pw_g h 136 (((12 + mo) - 1).toNat))) at hc42
      refine pw_ld E (pc' := 51) (st' := [pw_i 0]) rfl (fun _ => rfl) ?_
      refine pw_goto E (pc' := 55) rfl (by decide) ?_
      refine pw_ist E (pc' := 57) (ls' := [some (.ref 141), some (pw_i mo), some (pw_i ((pw_g h 136 (mo.toNat)) - (pw_g h 136 ((mo - 1).toNat)))), some (pw_i ((pw_g h 136 ((12 + mo).toNat)) - (pw_g h 136 (((12 + mo) - 1).toNat)))), some (pw_i 0), none, none, none, none]) rfl rfl rfl rfl ?_
      refine pw_ld E (pc' := 58) (st' := [pw_i 0]) rfl (fun _ => rfl) ?_
      refine pw_ist E (pc' := 60) (ls' := [some (.ref 141), some (pw_i mo), some (pw_i ((pw_g h 136 (mo.toNat)) - (pw_g h 136 ((mo - 1).toNat)))), some (pw_i ((pw_g h 136 ((12 + mo).toNat)) - (pw_g h 136 (((12 + mo) - 1).toNat)))), some (pw_i 0), some (pw_i 0), none, none, none]) rfl rfl rfl rfl ?_
      refine pw_ld E (pc' := 61) (st' := [pw_i 0]) rfl (fun _ => rfl) ?_
      refine pw_ist E (pc' := 63) (ls' := [some (.ref 141), some (pw_i mo), some (pw_i ((pw_g h 136 (mo.toNat)) - (pw_g h 136 ((mo - 1).toNat)))), some (pw_i ((pw_g h 136 ((12 + mo).toNat)) - (pw_g h 136 (((12 + mo) - 1).toNat)))), some (pw_i 0), some (pw_i 0), some (pw_i 0), none, none]) rfl rfl rfl rfl ?_
      refine pw_ld E (pc' := 64) (st' := [pw_i 0]) rfl (fun _ => rfl) ?_
      refine pw_ist E (pc' := 66) (ls' := [some (.ref 141), some (pw_i mo), some (pw_i ((pw_g h 136 (mo.toNat)) - (pw_g h 136 ((mo - 1).toNat)))), some (pw_i ((pw_g h 136 ((12 + mo).toNat)) - (pw_g h 136 (((12 + mo) - 1).toNat)))), some (pw_i 0), some (pw_i 0), some (pw_i 0), some (pw_i 0), none]) rfl rfl rfl rfl ?_
      have L66 : ∀ (n66 : Nat) (k66_5 : Int) (k66_6 : Int) (k66_7 : Int) (k66_8 : Option Value), (-2147483648) ≤ k66_5 → k66_5 ≤ 2147483647 → (-2147483648) ≤ k66_6 → k66_6 ≤ 2147483647 → 0 ≤ k66_7 → k66_7 ≤ 24 → (24 - k66_7).toNat = n66 → pw X d h 305 66 [some (.ref 141), some (pw_i mo), some (pw_i ((pw_g h 136 (mo.toNat)) - (pw_g h 136 ((mo - 1).toNat)))), some (pw_i ((pw_g h 136 ((12 + mo).toNat)) - (pw_g h 136 (((12 + mo) - 1).toNat)))), some (pw_i 0), some (pw_i k66_5), some (pw_i k66_6), some (pw_i k66_7), k66_8] [] (fun h' v => h = h' ∧ ∃ a : Int, v = .inl (some (pw_i a)) ∧ (-2147483648) ≤ a ∧ a ≤ 2147483647) := by
        intro n66
        induction n66 using Nat.strongRecOn with
        | ind n66 ih66 =>
          intro k66_5 k66_6 k66_7 k66_8 k66_5a k66_5b k66_6a k66_6b k66_7a k66_7b hm66
          refine pw_ld E (pc' := 68) (st' := [pw_i k66_7]) rfl (fun _ => rfl) ?_
          refine pw_bip E (pc' := 70) rfl rfl (by decide) ?_
          refine pw_if2 E (pc' := 167) rfl (by decide) (by omega) (by omega) (by decide) (by decide) ?_ ?_
          · intro hc43
            change (24 : Int) ≤ k66_7 at hc43
            refine pw_ld E (pc' := 169) (st' := [pw_i k66_5]) rfl (fun _ => rfl) ?_
            refine pw_ld E (pc' := 171) (st' := [pw_i k66_6, pw_i k66_5]) rfl (fun _ => rfl) ?_
            refine pw_mul E (pc' := 172) rfl rfl ?_
            refine pw_nm (fun x44 hx44a hx44b => ?_)
            refine pw_iret E rfl ?_
            exact ⟨rfl, ⟨_, rfl, by omega, by omega⟩⟩
          · intro hc45
            change ¬ ((24 : Int) ≤ k66_7) at hc45
            refine pw_ld E (pc' := 74) (st' := [.ref 141]) rfl (fun _ => rfl) ?_
            refine pw_ld E (pc' := 76) (st' := [pw_i k66_7, .ref 141]) rfl (fun _ => rfl) ?_
            refine pw_ld E (pc' := 77) (st' := [pw_i mo, pw_i k66_7, .ref 141]) rfl (fun _ => rfl) ?_
            refine pw_ld E (pc' := 78) (st' := [pw_i 1, pw_i mo, pw_i k66_7, .ref 141]) rfl (fun _ => rfl) ?_
            refine pw_sub E (pc' := 79) rfl rfl ?_
            refine pw_ld E (pc' := 80) (st' := [pw_i mo, pw_i (mo - 1), pw_i k66_7, .ref 141]) rfl (fun _ => rfl) ?_
            obtain ⟨f46l, f46h, -⟩ := pw_obj (c := 125) I rfl
            refine pw_call (m' := 214) (As := [.ref 141, pw_i k66_7, pw_i (mo - 1), pw_i mo]) (rest := []) (ls'' := [some (.ref 141), some (pw_i k66_7), some (pw_i (mo - 1)), some (pw_i mo)]) (Nat.le_trans (by decide) hd) E rfl (fun _ => pw_iV rfl rfl rfl rfl (pw_cellI f46h rfl)) (rfl : pm_ent 214 = some (4, 4, 12, 1, pmc_214)) rfl rfl (cm_214 (pw_dp hd (by decide)) I (k66_7) (by omega) (by omega) (mo - 1) (by omega) (by omega) (mo) (by omega) (by omega)) ?_
            rintro u48 v47 ⟨rfl, x49, rfl, hx49a, hx49b⟩
            refine ⟨_, rfl, ?_⟩
            show pw X d h 305 83 [some (.ref 141), some (pw_i mo), some (pw_i ((pw_g h 136 (mo.toNat)) - (pw_g h 136 ((mo - 1).toNat)))), some (pw_i ((pw_g h 136 ((12 + mo).toNat)) - (pw_g h 136 (((12 + mo) - 1).toNat)))), some (pw_i 0), some (pw_i k66_5), some (pw_i k66_6), some (pw_i k66_7), k66_8] [pw_i x49] _
            refine pw_ist E (pc' := 85) (ls' := [some (.ref 141), some (pw_i mo), some (pw_i ((pw_g h 136 (mo.toNat)) - (pw_g h 136 ((mo - 1).toNat)))), some (pw_i ((pw_g h 136 ((12 + mo).toNat)) - (pw_g h 136 (((12 + mo) - 1).toNat)))), some (pw_i 0), some (pw_i k66_5), some (pw_i k66_6), some (pw_i k66_7), some (pw_i x49)]) rfl rfl rfl rfl ?_
            refine pw_ld E (pc' := 87) (st' := [pw_i k66_5]) rfl (fun _ => rfl) ?_
            refine pw_ld E (pc' := 89) (st' := [pw_i x49, pw_i k66_5]) rfl (fun _ => rfl) ?_
            refine pw_if E (pc' := 130) rfl (by decide) (by omega) (by omega) ?_ ?_
            · intro hc50
              change x49 = (0 : Int) at hc50
              refine pw_ld E (pc' := 131) (st' := [pw_i 0, pw_i k66_5]) rfl (fun _ => rfl) ?_
              refine pw_add E (pc' := 132) rfl rfl ?_
              refine pw_ist E (pc' := 134) (ls' := [some (.ref 141), some (pw_i mo), some (pw_i ((pw_g h 136 (mo.toNat)) - (pw_g h 136 ((mo - 1).toNat)))), some (pw_i ((pw_g h 136 ((12 + mo).toNat)) - (pw_g h 136 (((12 + mo) - 1).toNat)))), some (pw_i 0), some (pw_i (k66_5 + 0)), some (pw_i k66_6), some (pw_i k66_7), some (pw_i x49)]) rfl rfl rfl rfl ?_
              refine pw_ld E (pc' := 136) (st' := [pw_i k66_6]) rfl (fun _ => rfl) ?_
              refine pw_ld E (pc' := 138) (st' := [pw_i x49, pw_i k66_6]) rfl (fun _ => rfl) ?_
              refine pw_if E (pc' := 157) rfl (by decide) (by omega) (by omega) ?_ ?_
              · intro hc51
                change x49 = (0 : Int) at hc51
                refine pw_ld E (pc' := 158) (st' := [pw_i 0, pw_i k66_6]) rfl (fun _ => rfl) ?_
                refine pw_add E (pc' := 159) rfl rfl ?_
                refine pw_ist E (pc' := 161) (ls' := [some (.ref 141), some (pw_i mo), some (pw_i ((pw_g h 136 (mo.toNat)) - (pw_g h 136 ((mo - 1).toNat)))), some (pw_i ((pw_g h 136 ((12 + mo).toNat)) - (pw_g h 136 (((12 + mo) - 1).toNat)))), some (pw_i 0), some (pw_i (k66_5 + 0)), some (pw_i (k66_6 + 0)), some (pw_i k66_7), some (pw_i x49)]) rfl rfl rfl rfl ?_
                refine pw_inc E (pc' := 164) (ls' := [some (.ref 141), some (pw_i mo), some (pw_i ((pw_g h 136 (mo.toNat)) - (pw_g h 136 ((mo - 1).toNat)))), some (pw_i ((pw_g h 136 ((12 + mo).toNat)) - (pw_g h 136 (((12 + mo) - 1).toNat)))), some (pw_i 0), some (pw_i (k66_5 + 0)), some (pw_i (k66_6 + 0)), some (pw_i (k66_7 + 1)), some (pw_i x49)]) rfl rfl rfl rfl ?_
                refine pw_goto E (pc' := 66) rfl (by decide) ?_
                exact ih66 _ (by omega) (k66_5 + 0) (k66_6 + 0) (k66_7 + 1) (some (pw_i x49))  (by omega) (by omega) (by omega) (by omega) (by omega) (by omega)  rfl
              · intro hc52
                change ¬ (x49 = (0 : Int)) at hc52
                exfalso; omega
            · intro hc53
              change ¬ (x49 = (0 : Int)) at hc53
              refine pw_ld E (pc' := 93) (st' := [.ref 141, pw_i k66_5]) rfl (fun _ => rfl) ?_
              refine pw_getR (b := 148) I E (c := 125) (k := 11) (pc' := 96) rfl rfl rfl rfl rfl rfl rfl ?_
              refine pw_ld E (pc' := 98) (st' := [pw_i k66_7, .ref 148, pw_i k66_5]) rfl (fun _ => rfl) ?_
              refine pw_ald2 I E (c := 132) (pc' := 99) rfl rfl rfl (by decide) rfl (by decide) (by omega) (by omega) rfl (fun hf54a hf54b => ?_)
              refine pw_ld E (pc' := 101) (st' := [pw_i 0, pw_i (pw_g h 132 (k66_7.toNat)), pw_i k66_5]) rfl (fun _ => rfl) ?_
              refine pw_if2 E (pc' := 130) rfl (by decide) (by omega) (by omega) (by decide) (by decide) ?_ ?_
              · intro hc55
                change pw_g h 132 (k66_7.toNat) ≠ (0 : Int) at hc55
                refine pw_ld E (pc' := 131) (st' := [pw_i 0, pw_i k66_5]) rfl (fun _ => rfl) ?_
                refine pw_add E (pc' := 132) rfl rfl ?_
                refine pw_ist E (pc' := 134) (ls' := [some (.ref 141), some (pw_i mo), some (pw_i ((pw_g h 136 (mo.toNat)) - (pw_g h 136 ((mo - 1).toNat)))), some (pw_i ((pw_g h 136 ((12 + mo).toNat)) - (pw_g h 136 (((12 + mo) - 1).toNat)))), some (pw_i 0), some (pw_i (k66_5 + 0)), some (pw_i k66_6), some (pw_i k66_7), some (pw_i x49)]) rfl rfl rfl rfl ?_
                refine pw_ld E (pc' := 136) (st' := [pw_i k66_6]) rfl (fun _ => rfl) ?_
                refine pw_ld E (pc' := 138) (st' := [pw_i x49, pw_i k66_6]) rfl (fun _ => rfl) ?_
                refine pw_if E (pc' := 157) rfl (by decide) (by omega) (by omega) ?_ ?_
                · intro hc56
                  change x49 = (0 : Int) at hc56
                  exfalso; omega
                · intro hc57
                  change ¬ (x49 = (0 : Int)) at hc57
                  refine pw_ld E (pc' := 142) (st' := [.ref 141, pw_i k66_6]) rfl (fun _ => rfl) ?_
                  refine pw_getR (b := 148) I E (c := 125) (k := 11) (pc' := 145) rfl rfl rfl rfl rfl rfl rfl ?_
                  refine pw_ld E (pc' := 147) (st' := [pw_i k66_7, .ref 148, pw_i k66_6]) rfl (fun _ => rfl) ?_
                  refine pw_ald2 I E (c := 132) (pc' := 148) rfl rfl rfl (by decide) rfl (by decide) (by omega) (by omega) rfl (fun hf58a hf58b => ?_)
                  refine pw_ld E (pc' := 150) (st' := [pw_i 0, pw_i (pw_g h 132 (k66_7.toNat)), pw_i k66_6]) rfl (fun _ => rfl) ?_
                  refine pw_if2 E (pc' := 157) rfl (by decide) (by omega) (by omega) (by decide) (by decide) ?_ ?_
                  · intro hc59
                    change pw_g h 132 (k66_7.toNat) = (0 : Int) at hc59
                    exfalso; omega
                  · intro hc60
                    change ¬ (pw_g h 132 (k66_7.toNat) = (0 : Int)) at hc60
                    refine pw_ld E (pc' := 154) (st' := [pw_i 1, pw_i k66_6]) rfl (fun _ => rfl) ?_
                    refine pw_goto E (pc' := 158) rfl (by decide) ?_
                    refine pw_add E (pc' := 159) rfl rfl ?_
                    refine pw_nm (fun x61 hx61a hx61b => ?_)
                    refine pw_ist E (pc' := 161) (ls' := [some (.ref 141), some (pw_i mo), some (pw_i ((pw_g h 136 (mo.toNat)) - (pw_g h 136 ((mo - 1).toNat)))), some (pw_i ((pw_g h 136 ((12 + mo).toNat)) - (pw_g h 136 (((12 + mo) - 1).toNat)))), some (pw_i 0), some (pw_i (k66_5 + 0)), some (pw_i x61), some (pw_i k66_7), some (pw_i x49)]) rfl rfl rfl rfl ?_
                    refine pw_inc E (pc' := 164) (ls' := [some (.ref 141), some (pw_i mo), some (pw_i ((pw_g h 136 (mo.toNat)) - (pw_g h 136 ((mo - 1).toNat)))), some (pw_i ((pw_g h 136 ((12 + mo).toNat)) - (pw_g h 136 (((12 + mo) - 1).toNat)))), some (pw_i 0), some (pw_i (k66_5 + 0)), some (pw_i x61), some (pw_i (k66_7 + 1)), some (pw_i x49)]) rfl rfl rfl rfl ?_
                    refine pw_goto E (pc' := 66) rfl (by decide) ?_
                    exact ih66 _ (by omega) (k66_5 + 0) (x61) (k66_7 + 1) (some (pw_i x49))  (by omega) (by omega) (by omega) (by omega) (by omega) (by omega)  rfl
              · intro hc62
                change ¬ (pw_g h 132 (k66_7.toNat) ≠ (0 : Int)) at hc62
                refine pw_ld E (pc' := 105) (st' := [.ref 141, pw_i k66_5]) rfl (fun _ => rfl) ?_
                refine pw_getR (b := 149) I E (c := 125) (k := 12) (pc' := 108) rfl rfl rfl rfl rfl rfl rfl ?_
                refine pw_ld E (pc' := 110) (st' := [pw_i k66_7, .ref 149, pw_i k66_5]) rfl (fun _ => rfl) ?_
                refine pw_ald2 I E (c := 133) (pc' := 111) rfl rfl rfl (by decide) rfl (by decide) (by omega) (by omega) rfl (fun hf63a hf63b => ?_)
                refine pw_ld E (pc' := 112) (st' := [.ref 141, pw_i (pw_g h 133 (k66_7.toNat)), pw_i k66_5]) rfl (fun _ => rfl) ?_
                refine pw_getR (b := 152) I E (c := 125) (k := 16) (pc' := 115) rfl rfl rfl rfl rfl rfl rfl ?_
                refine pw_bip E (pc' := 117) rfl rfl (by decide) ?_
                refine pw_ld E (pc' := 119) (st' := [pw_i 0, pw_i 12, .ref 152, pw_i (pw_g h 133 (k66_7.toNat)), pw_i k66_5]) rfl (fun _ => rfl) ?_
                refine pw_mul E (pc' := 120) rfl rfl ?_
                refine pw_ld E (pc' := 121) (st' := [pw_i mo, pw_i (12 * 0), .ref 152, pw_i (pw_g h 133 (k66_7.toNat)), pw_i k66_5]) rfl (fun _ => rfl) ?_
                refine pw_add E (pc' := 122) rfl rfl ?_
                refine pw_ald2 I E (c := 136) (pc' := 123) rfl rfl rfl (by decide) rfl (by decide) (by omega) (by omega) rfl (fun hf64a hf64b => ?_)
                refine pw_if2 E (pc' := 130) rfl (by decide) (by omega) (by omega) (by omega) (by omega) ?_ ?_
                · intro hc65
                  change pw_g h 136 (((12 * 0) + mo).toNat) ≤ pw_g h 133 (k66_7.toNat) at hc65
                  refine pw_ld E (pc' := 131) (st' := [pw_i 0, pw_i k66_5]) rfl (fun _ => rfl) ?_
                  refine pw_add E (pc' := 132) rfl rfl ?_
                  refine pw_ist E (pc' := 134) (ls' := [some (.ref 141), some (pw_i mo), some (pw_i ((pw_g h 136 (mo.toNat)) - (pw_g h 136 ((mo - 1).toNat)))), some (pw_i ((pw_g h 136 ((12 + mo).toNat)) - (pw_g h 136 (((12 + mo) - 1).toNat)))), some (pw_i 0), some (pw_i (k66_5 + 0)), some (pw_i k66_6), some (pw_i k66_7), some (pw_i x49)]) rfl rfl rfl rfl ?_
                  refine pw_ld E (pc' := 136) (st' := [pw_i k66_6]) rfl (fun _ => rfl) ?_
                  refine pw_ld E (pc' := 138) (st' := [pw_i x49, pw_i k66_6]) rfl (fun _ => rfl) ?_
                  refine pw_if E (pc' := 157) rfl (by decide) (by omega) (by omega) ?_ ?_
                  · intro hc66
                    change x49 = (0 : Int) at hc66
                    exfalso; omega
                  · intro hc67
                    change ¬ (x49 = (0 : Int)) at hc67
                    refine pw_ld E (pc' := 142) (st' := [.ref 141, pw_i k66_6]) rfl (fun _ => rfl) ?_
                    refine pw_getR (b := 148) I E (c := 125) (k := 11) (pc' := 145) rfl rfl rfl rfl rfl rfl rfl ?_
                    refine pw_ld E (pc' := 147) (st' := [pw_i k66_7, .ref 148, pw_i k66_6]) rfl (fun _ => rfl) ?_
                    refine pw_ald2 I E (c := 132) (pc' := 148) rfl rfl rfl (by decide) rfl (by decide) (by omega) (by omega) rfl (fun hf68a hf68b => ?_)
                    refine pw_ld E (pc' := 150) (st' := [pw_i 0, pw_i (pw_g h 132 (k66_7.toNat)), pw_i k66_6]) rfl (fun _ => rfl) ?_
                    refine pw_if2 E (pc' := 157) rfl (by decide) (by omega) (by omega) (by decide) (by decide) ?_ ?_
                    · intro hc69
                      change pw_g h 132 (k66_7.toNat) = (0 : Int) at hc69
                      refine pw_ld E (pc' := 158) (st' := [pw_i 0, pw_i k66_6]) rfl (fun _ => rfl) ?_
                      refine pw_add E (pc' := 159) rfl rfl ?_
                      refine pw_ist E (pc' := 161) (ls' := [some (.ref 141), some (pw_i mo), some (pw_i ((pw_g h 136 (mo.toNat)) - (pw_g h 136 ((mo - 1).toNat)))), some (pw_i ((pw_g h 136 ((12 + mo).toNat)) - (pw_g h 136 (((12 + mo) - 1).toNat)))), some (pw_i 0), some (pw_i (k66_5 + 0)), some (pw_i (k66_6 + 0)), some (pw_i k66_7), some (pw_i x49)]) rfl rfl rfl rfl ?_
                      refine pw_inc E (pc' := 164) (ls' := [some (.ref 141), some (pw_i mo), some (pw_i ((pw_g h 136 (mo.toNat)) - (pw_g h 136 ((mo - 1).toNat)))), some (pw_i ((pw_g h 136 ((12 + mo).toNat)) - (pw_g h 136 (((12 + mo) - 1).toNat)))), some (pw_i 0), some (pw_i (k66_5 + 0)), some (pw_i (k66_6 + 0)), some (pw_i (k66_7 + 1)), some (pw_i x49)]) rfl rfl rfl rfl ?_
                      refine pw_goto E (pc' := 66) rfl (by decide) ?_
                      exact ih66 _ (by omega) (k66_5 + 0) (k66_6 + 0) (k66_7 + 1) (some (pw_i x49))  (by omega) (by omega) (by omega) (by omega) (by omega) (by omega)  rfl
                    · intro hc70
                      change ¬ (pw_g h 132 (k66_7.toNat) = (0 : Int)) at hc70
                      exfalso; omega
                · intro hc71
                  change ¬ (pw_g h 136 (((12 * 0) + mo).toNat) ≤ pw_g h 133 (k66_7.toNat)) at hc71
                  refine pw_ld E (pc' := 127) (st' := [pw_i 1, pw_i k66_5]) rfl (fun _ => rfl) ?_
                  refine pw_goto E (pc' := 131) rfl (by decide) ?_
                  refine pw_add E (pc' := 132) rfl rfl ?_
                  refine pw_nm (fun x72 hx72a hx72b => ?_)
                  refine pw_ist E (pc' := 134) (ls' := [some (.ref 141), some (pw_i mo), some (pw_i ((pw_g h 136 (mo.toNat)) - (pw_g h 136 ((mo - 1).toNat)))), some (pw_i ((pw_g h 136 ((12 + mo).toNat)) - (pw_g h 136 (((12 + mo) - 1).toNat)))), some (pw_i 0), some (pw_i x72), some (pw_i k66_6), some (pw_i k66_7), some (pw_i x49)]) rfl rfl rfl rfl ?_
                  refine pw_ld E (pc' := 136) (st' := [pw_i k66_6]) rfl (fun _ => rfl) ?_
                  refine pw_ld E (pc' := 138) (st' := [pw_i x49, pw_i k66_6]) rfl (fun _ => rfl) ?_
                  refine pw_if E (pc' := 157) rfl (by decide) (by omega) (by omega) ?_ ?_
                  · intro hc73
                    change x49 = (0 : Int) at hc73
                    exfalso; omega
                  · intro hc74
                    change ¬ (x49 = (0 : Int)) at hc74
                    refine pw_ld E (pc' := 142) (st' := [.ref 141, pw_i k66_6]) rfl (fun _ => rfl) ?_
                    refine pw_getR (b := 148) I E (c := 125) (k := 11) (pc' := 145) rfl rfl rfl rfl rfl rfl rfl ?_
                    refine pw_ld E (pc' := 147) (st' := [pw_i k66_7, .ref 148, pw_i k66_6]) rfl (fun _ => rfl) ?_
                    refine pw_ald2 I E (c := 132) (pc' := 148) rfl rfl rfl (by decide) rfl (by decide) (by omega) (by omega) rfl (fun hf75a hf75b => ?_)
                    refine pw_ld E (pc' := 150) (st' := [pw_i 0, pw_i (pw_g h 132 (k66_7.toNat)), pw_i k66_6]) rfl (fun _ => rfl) ?_
                    refine pw_if2 E (pc' := 157) rfl (by decide) (by omega) (by omega) (by decide) (by decide) ?_ ?_
                    · intro hc76
                      change pw_g h 132 (k66_7.toNat) = (0 : Int) at hc76
                      refine pw_ld E (pc' := 158) (st' := [pw_i 0, pw_i k66_6]) rfl (fun _ => rfl) ?_
                      refine pw_add E (pc' := 159) rfl rfl ?_
                      refine pw_ist E (pc' := 161) (ls' := [some (.ref 141), some (pw_i mo), some (pw_i ((pw_g h 136 (mo.toNat)) - (pw_g h 136 ((mo - 1).toNat)))), some (pw_i ((pw_g h 136 ((12 + mo).toNat)) - (pw_g h 136 (((12 + mo) - 1).toNat)))), some (pw_i 0), some (pw_i x72), some (pw_i (k66_6 + 0)), some (pw_i k66_7), some (pw_i x49)]) rfl rfl rfl rfl ?_
                      refine pw_inc E (pc' := 164) (ls' := [some (.ref 141), some (pw_i mo), some (pw_i ((pw_g h 136 (mo.toNat)) - (pw_g h 136 ((mo - 1).toNat)))), some (pw_i ((pw_g h 136 ((12 + mo).toNat)) - (pw_g h 136 (((12 + mo) - 1).toNat)))), some (pw_i 0), some (pw_i x72), some (pw_i (k66_6 + 0)), some (pw_i (k66_7 + 1)), some (pw_i x49)]) rfl rfl rfl rfl ?_
                      refine pw_goto E (pc' := 66) rfl (by decide) ?_
                      exact ih66 _ (by omega) (x72) (k66_6 + 0) (k66_7 + 1) (some (pw_i x49))  (by omega) (by omega) (by omega) (by omega) (by omega) (by omega)  rfl
                    · intro hc77
                      change ¬ (pw_g h 132 (k66_7.toNat) = (0 : Int)) at hc77
                      exfalso; omega
      exact L66 _ (0) (0) (0) (none)  (by omega) (by omega) (by omega) (by omega) (by omega) (by omega)  rfl
  · intro hc78
    change ¬ ((pw_g h 136 (mo.toNat)) - (pw_g h 136 ((mo - 1).toNat)) ≠ (pw_g h 136 ((12 + mo).toNat)) - (pw_g h 136 (((12 + mo) - 1).toNat))) at hc78
    refine pw_ld E (pc' := 44) (st' := [pw_i 0]) rfl (fun _ => rfl) ?_
    refine pw_iret E rfl ?_
    exact ⟨rfl, ⟨_, rfl, by omega, by omega⟩⟩
set_option maxHeartbeats 4000000 in
theorem cm_304 {X : List (Nat × List Value)} {d : Nat} {h : pm_H} (hd : 3 ≤ d) (I : pw_I h) (wt : Int) (hwt1 : (-2147483648) ≤ wt) (hwt2 : wt ≤ 2147483647) : pw X d h 304 0 [some (.ref 141), some (pw_i wt), none, none, none] [] (fun h' v => pw_I h' ∧ pw_E [125] h h' ∧ ∃ a : Int, v = .inl (some (pw_i a)) ∧ (-2147483648) ≤ a ∧ a ≤ 2147483647) := by
  have E : pm_ent 304 = some (2, 5, 12, 0, pmc_304) := rfl
  have E0 : pw_E [125] h h := pw_E.rf _ _
  refine pw_ld E (pc' := 1) (st' := [.ref 141]) rfl (fun _ => rfl) ?_
  refine pw_ld E (pc' := 2) (st' := [pw_i 0, .ref 141]) rfl (fun _ => rfl) ?_
  refine pw_putI I E (c := 125) (k := 0) (pc' := 5) rfl rfl rfl rfl (by omega) (by omega) (by omega) (by omega) rfl rfl ?_
  intro h1I h1E
  generalize h1w : pw_w h 125 0 (pw_i 0) = h1 at h1I h1E ⊢
  have h1F := E0.tr (h1E.wk (W' := [125]) (by first | rfl | simp))
  refine pw_ld E (pc' := 6) (st' := [pw_i wt]) rfl (fun _ => rfl) ?_
  refine pw_call (m' := 217) (As := [pw_i wt]) (rest := []) (ls'' := [some (pw_i wt)]) (Nat.le_trans (by decide) hd) E rfl (fun _ => pw_iS rfl rfl rfl) (rfl : pm_ent 217 = some (1, 1, 12, 1, pmc_217)) rfl rfl (cm_217 (pw_dp hd (by decide)) h1I (wt) (by omega) (by omega)) ?_
  rintro u3 v2 ⟨rfl, x4, rfl, hx4a, hx4b, hx4r⟩
  refine ⟨_, rfl, ?_⟩
  show pw X d h1 304 9 [some (.ref 141), some (pw_i wt), none, none, none] [pw_i x4] _
  change (x4 = 1 ∧ 0 ≤ wt ∧ wt ≤ 1) ∨ (x4 = 0 ∧ ¬ (0 ≤ wt ∧ wt ≤ 1)) at hx4r
  rcases (by omega : x4 = 1 ∨ x4 = 0) with hb5 | hb5
  · skip
    refine pw_if E (pc' := 14) rfl (by decide) (by omega) (by omega) ?_ ?_
    · intro hc6
      change x4 ≠ (0 : Int) at hc6
      refine pw_ld E (pc' := 15) (st' := [pw_i ((-1))]) rfl (fun _ => rfl) ?_
      refine pw_istn E (pc' := 16) (ls' := [some (.ref 141), some (pw_i wt), some (pw_i ((-1))), none, none]) rfl rfl rfl rfl ?_
      refine pw_ld E (pc' := 17) (st' := [pw_i 0]) rfl (fun _ => rfl) ?_
      refine pw_istn E (pc' := 18) (ls' := [some (.ref 141), some (pw_i wt), some (pw_i ((-1))), some (pw_i 0), none]) rfl rfl rfl rfl ?_
      refine pw_ld E (pc' := 19) (st' := [pw_i 1]) rfl (fun _ => rfl) ?_
      refine pw_ist E (pc' := 21) (ls' := [some (.ref 141), some (pw_i wt), some (pw_i ((-1))), some (pw_i 0), some (pw_i 1)]) rfl rfl rfl rfl ?_
      have L21 : ∀ (n21 : Nat) (k21_2 : Int) (k21_3 : Int) (k21_4 : Int), (-2147483648) ≤ k21_2 → k21_2 ≤ 2147483647 → (-2147483648) ≤ k21_3 → k21_3 ≤ 2147483647 → 1 ≤ k21_4 → k21_4 ≤ 12 → (12 - k21_4).toNat = n21 → pw X d h1 304 21 [some (.ref 141), some (pw_i wt), some (pw_i k21_2), some (pw_i k21_3), some (pw_i k21_4)] [] (fun h' v => pw_I h' ∧ pw_E [125] h h' ∧ ∃ a : Int, v = .inl (some (pw_i a)) ∧ (-2147483648) ≤ a ∧ a ≤ 2147483647) := by
        intro n21
        induction n21 using Nat.strongRecOn with
        | ind n21 ih21 =>
          intro k21_2 k21_3 k21_4 k21_2a k21_2b k21_3a k21_3b k21_4a k21_4b hm21
          refine pw_ld E (pc' := 23) (st' := [pw_i k21_4]) rfl (fun _ => rfl) ?_
          refine pw_bip E (pc' := 25) rfl rfl (by decide) ?_
          refine pw_if2 E (pc' := 54) rfl (by decide) (by omega) (by omega) (by decide) (by decide) ?_ ?_
          · intro hc7
            change (12 : Int) ≤ k21_4 at hc7
            refine pw_ld E (pc' := 55) (st' := [pw_i k21_2]) rfl (fun _ => rfl) ?_
            refine pw_if E (pc' := 62) rfl (by decide) (by omega) (by omega) ?_ ?_
            · intro hc8
              change (0 : Int) ≤ k21_2 at hc8
              refine pw_ld E (pc' := 63) (st' := [pw_i wt]) rfl (fun _ => rfl) ?_
              refine pw_if E (pc' := 70) rfl (by decide) (by omega) (by omega) ?_ ?_
              · intro hc9
                change wt ≠ (0 : Int) at hc9
                refine pw_ld E (pc' := 71) (st' := [pw_i k21_3]) rfl (fun _ => rfl) ?_
                refine pw_iret E rfl ?_
                exact ⟨h1I, h1F, ⟨_, rfl, by omega, by omega⟩⟩
              · intro hc10
                change ¬ (wt ≠ (0 : Int)) at hc10
                refine pw_ld E (pc' := 67) (st' := [pw_i k21_2]) rfl (fun _ => rfl) ?_
                refine pw_goto E (pc' := 71) rfl (by decide) ?_
                refine pw_iret E rfl ?_
                exact ⟨h1I, h1F, ⟨_, rfl, by omega, by omega⟩⟩
            · intro hc11
              change ¬ ((0 : Int) ≤ k21_2) at hc11
              refine pw_ld E (pc' := 59) (st' := [pw_i ((-1))]) rfl (fun _ => rfl) ?_
              refine pw_goto E (pc' := 71) rfl (by decide) ?_
              refine pw_iret E rfl ?_
              exact ⟨h1I, h1F, ⟨_, rfl, by omega, by omega⟩⟩
          · intro hc12
            change ¬ ((12 : Int) ≤ k21_4) at hc12
            refine pw_ld E (pc' := 29) (st' := [.ref 141]) rfl (fun _ => rfl) ?_
            refine pw_ld E (pc' := 31) (st' := [pw_i k21_4, .ref 141]) rfl (fun _ => rfl) ?_
            obtain ⟨f13l, f13h, -⟩ := pw_obj (c := 125) h1I rfl
            refine pw_call (m' := 305) (As := [.ref 141, pw_i k21_4]) (rest := []) (ls'' := [some (.ref 141), some (pw_i k21_4), none, none, none, none, none, none, none]) (Nat.le_trans (by decide) hd) E rfl (fun _ => pw_iV rfl rfl rfl rfl (pw_cellI f13h rfl)) (rfl : pm_ent 305 = some (2, 9, 12, 0, pmc_305)) rfl rfl (cm_305 (pw_dp hd (by decide)) h1I (k21_4) (by omega) (by omega)) ?_
            rintro u15 v14 ⟨rfl, x16, rfl, hx16a, hx16b⟩
            refine ⟨_, rfl, ?_⟩
            show pw X d h1 304 34 [some (.ref 141), some (pw_i wt), some (pw_i k21_2), some (pw_i k21_3), some (pw_i k21_4)] [pw_i x16] _
            refine pw_ld E (pc' := 35) (st' := [pw_i k21_3, pw_i x16]) rfl (fun _ => rfl) ?_
            refine pw_if2 E (pc' := 48) rfl (by decide) (by omega) (by omega) (by omega) (by omega) ?_ ?_
            · intro hc17
              change x16 ≤ k21_3 at hc17
              refine pw_inc E (pc' := 51) (ls' := [some (.ref 141), some (pw_i wt), some (pw_i k21_2), some (pw_i k21_3), some (pw_i (k21_4 + 1))]) rfl rfl rfl rfl ?_
              refine pw_goto E (pc' := 21) rfl (by decide) ?_
              exact ih21 _ (by omega) (k21_2) (k21_3) (k21_4 + 1)  (by omega) (by omega) (by omega) (by omega) (by omega) (by omega)  rfl
            · intro hc18
              change ¬ (x16 ≤ k21_3) at hc18
              refine pw_ld E (pc' := 39) (st' := [.ref 141]) rfl (fun _ => rfl) ?_
              refine pw_ld E (pc' := 41) (st' := [pw_i k21_4, .ref 141]) rfl (fun _ => rfl) ?_
              obtain ⟨f19l, f19h, -⟩ := pw_obj (c := 125) h1I rfl
              refine pw_call (m' := 305) (As := [.ref 141, pw_i k21_4]) (rest := []) (ls'' := [some (.ref 141), some (pw_i k21_4), none, none, none, none, none, none, none]) (Nat.le_trans (by decide) hd) E rfl (fun _ => pw_iV rfl rfl rfl rfl (pw_cellI f19h rfl)) (rfl : pm_ent 305 = some (2, 9, 12, 0, pmc_305)) rfl rfl (cm_305 (pw_dp hd (by decide)) h1I (k21_4) (by omega) (by omega)) ?_
              rintro u21 v20 ⟨rfl, x22, rfl, hx22a, hx22b⟩
              refine ⟨_, rfl, ?_⟩
              show pw X d h1 304 44 [some (.ref 141), some (pw_i wt), some (pw_i k21_2), some (pw_i k21_3), some (pw_i k21_4)] [pw_i x22] _
              refine pw_istn E (pc' := 45) (ls' := [some (.ref 141), some (pw_i wt), some (pw_i k21_2), some (pw_i x22), some (pw_i k21_4)]) rfl rfl rfl rfl ?_
              refine pw_ld E (pc' := 47) (st' := [pw_i k21_4]) rfl (fun _ => rfl) ?_
              refine pw_istn E (pc' := 48) (ls' := [some (.ref 141), some (pw_i wt), some (pw_i k21_4), some (pw_i x22), some (pw_i k21_4)]) rfl rfl rfl rfl ?_
              refine pw_inc E (pc' := 51) (ls' := [some (.ref 141), some (pw_i wt), some (pw_i k21_4), some (pw_i x22), some (pw_i (k21_4 + 1))]) rfl rfl rfl rfl ?_
              refine pw_goto E (pc' := 21) rfl (by decide) ?_
              exact ih21 _ (by omega) (k21_4) (x22) (k21_4 + 1)  (by omega) (by omega) (by omega) (by omega) (by omega) (by omega)  rfl
      exact L21 _ ((-1)) (0) (1)  (by omega) (by omega) (by omega) (by omega) (by omega) (by omega)  rfl
    · intro hc23
      change ¬ (x4 ≠ (0 : Int)) at hc23
      exfalso; omega
  · skip
    refine pw_if E (pc' := 14) rfl (by decide) (by omega) (by omega) ?_ ?_
    · intro hc25
      change x4 ≠ (0 : Int) at hc25
      exfalso; omega
    · intro hc26
      change ¬ (x4 ≠ (0 : Int)) at hc26
      refine pw_ld E (pc' := 13) (st' := [pw_i ((-1))]) rfl (fun _ => rfl) ?_
      refine pw_iret E rfl ?_
      exact ⟨h1I, h1F, ⟨_, rfl, by omega, by omega⟩⟩
set_option maxHeartbeats 4000000 in
theorem cm_307_138 {X : List (Nat × List Value)} {d : Nat} {h : pm_H} (hd : 1 ≤ d) (I : pw_I h) (fr : Int) (hfr1 : 0 ≤ fr) (hfr2 : fr ≤ 6624) (z : Int) (hz1 : 0 ≤ z) (hz2 : z ≤ 1) : pw X d h 307 0 [some (.ref 141), some (pw_i fr), some (.ref 154), some (pw_i z), none] [] (fun h' v => pw_I h' ∧ pw_E [138, 168] h h' ∧ v = .inl none) := by
  have E : pm_ent 307 = some (4, 5, 12, 4, pmc_307) := rfl
  have E0 : pw_E [138, 168] h h := pw_E.rf _ _
  refine pw_ld E (pc' := 1) (st' := [pw_i 0]) rfl (fun _ => rfl) ?_
  refine pw_ist E (pc' := 3) (ls' := [some (.ref 141), some (pw_i fr), some (.ref 154), some (pw_i z), some (pw_i 0)]) rfl rfl rfl rfl ?_
  have L3 : ∀ (n3 : Nat) (k3_4 : Int) (gh3 : pm_H), pw_I gh3 → pw_E [138, 168] h gh3 → 0 ≤ k3_4 → k3_4 ≤ 288 → (288 - k3_4).toNat = n3 → pw X d gh3 307 3 [some (.ref 141), some (pw_i fr), some (.ref 154), some (pw_i z), some (pw_i k3_4)] [] (fun h' v => pw_I h' ∧ pw_E [138, 168] h h' ∧ v = .inl none) := by
    intro n3
    induction n3 using Nat.strongRecOn with
    | ind n3 ih3 =>
      intro k3_4 gh3 I3 E3 k3_4a k3_4b hm3
      refine pw_ld E (pc' := 5) (st' := [pw_i k3_4]) rfl (fun _ => rfl) ?_
      refine pw_sip E (pc' := 8) rfl rfl (by decide) ?_
      refine pw_if2 E (pc' := 50) rfl (by decide) (by omega) (by omega) (by decide) (by decide) ?_ ?_
      · intro hc1
        change (288 : Int) ≤ k3_4 at hc1
        refine pw_vret E rfl ?_
        exact ⟨I3, E3, rfl⟩
      · intro hc2
        change ¬ ((288 : Int) ≤ k3_4) at hc2
        refine pw_ld E (pc' := 12) (st' := [pw_i z]) rfl (fun _ => rfl) ?_
        refine pw_if E (pc' := 31) rfl (by decide) (by omega) (by omega) ?_ ?_
        · intro hc3
          change z = (0 : Int) at hc3
          refine pw_ld E (pc' := 32) (st' := [.ref 141]) rfl (fun _ => rfl) ?_
          refine pw_getR (b := 184) I3 E (c := 125) (k := 57) (pc' := 35) rfl rfl rfl rfl rfl rfl rfl ?_
          refine pw_ld E (pc' := 36) (st' := [pw_i fr, .ref 184]) rfl (fun _ => rfl) ?_
          refine pw_ld E (pc' := 38) (st' := [pw_i k3_4, pw_i fr, .ref 184]) rfl (fun _ => rfl) ?_
          refine pw_add E (pc' := 39) rfl rfl ?_
          refine pw_ld E (pc' := 40) (st' := [.ref 154, pw_i (fr + k3_4), .ref 184]) rfl (fun _ => rfl) ?_
          refine pw_ld E (pc' := 42) (st' := [pw_i k3_4, .ref 154, pw_i (fr + k3_4), .ref 184]) rfl (fun _ => rfl) ?_
          refine pw_ald2 I3 E (c := 138) (pc' := 43) rfl rfl rfl (by decide) rfl (by decide) (by omega) (by omega) rfl (fun hf4a hf4b => ?_)
          refine pw_ast0 I3 E (c := 168) (pc' := 44) rfl rfl rfl (by decide) rfl (by decide) (by omega) (by omega) rfl (by omega) (by omega) (by omega) (by omega) rfl ?_
          intro h5I h5E
          generalize h5w : pw_w gh3 168 ((fr + k3_4).toNat) (pw_i (pw_g gh3 138 (k3_4.toNat))) = h5 at h5I h5E ⊢
          have h5F := E3.tr (h5E.wk (W' := [138, 168]) (by first | rfl | simp))
          refine pw_inc E (pc' := 47) (ls' := [some (.ref 141), some (pw_i fr), some (.ref 154), some (pw_i z), some (pw_i (k3_4 + 1))]) rfl rfl rfl rfl ?_
          refine pw_goto E (pc' := 3) rfl (by decide) ?_
          exact ih3 _ (by omega) (k3_4 + 1) h5 h5I h5F (by omega) (by omega)  rfl
        · intro hc6
          change ¬ (z = (0 : Int)) at hc6
          refine pw_ld E (pc' := 16) (st' := [.ref 154]) rfl (fun _ => rfl) ?_
          refine pw_ld E (pc' := 18) (st' := [pw_i k3_4, .ref 154]) rfl (fun _ => rfl) ?_
          refine pw_ld E (pc' := 19) (st' := [.ref 141, pw_i k3_4, .ref 154]) rfl (fun _ => rfl) ?_
          refine pw_getR (b := 184) I3 E (c := 125) (k := 57) (pc' := 22) rfl rfl rfl rfl rfl rfl rfl ?_
          refine pw_ld E (pc' := 23) (st' := [pw_i fr, .ref 184, pw_i k3_4, .ref 154]) rfl (fun _ => rfl) ?_
          refine pw_ld E (pc' := 25) (st' := [pw_i k3_4, pw_i fr, .ref 184, pw_i k3_4, .ref 154]) rfl (fun _ => rfl) ?_
          refine pw_add E (pc' := 26) rfl rfl ?_
          refine pw_ald2 I3 E (c := 168) (pc' := 27) rfl rfl rfl (by decide) rfl (by decide) (by omega) (by omega) rfl (fun hf7a hf7b => ?_)
          refine pw_ast0 I3 E (c := 138) (pc' := 28) rfl rfl rfl (by decide) rfl (by decide) (by omega) (by omega) rfl (by omega) (by omega) (by omega) (by omega) rfl ?_
          intro h8I h8E
          generalize h8w : pw_w gh3 138 (k3_4.toNat) (pw_i (pw_g gh3 168 ((fr + k3_4).toNat))) = h8 at h8I h8E ⊢
          have h8F := E3.tr (h8E.wk (W' := [138, 168]) (by first | rfl | simp))
          refine pw_goto E (pc' := 44) rfl (by decide) ?_
          refine pw_inc E (pc' := 47) (ls' := [some (.ref 141), some (pw_i fr), some (.ref 154), some (pw_i z), some (pw_i (k3_4 + 1))]) rfl rfl rfl rfl ?_
          refine pw_goto E (pc' := 3) rfl (by decide) ?_
          exact ih3 _ (by omega) (k3_4 + 1) h8 h8I h8F (by omega) (by omega)  rfl
  exact L3 _ (0) h I E0 (by omega) (by omega)  rfl
set_option maxHeartbeats 4000000 in
theorem cm_307_139 {X : List (Nat × List Value)} {d : Nat} {h : pm_H} (hd : 1 ≤ d) (I : pw_I h) (fr : Int) (hfr1 : 0 ≤ fr) (hfr2 : fr ≤ 6624) (z : Int) (hz1 : 0 ≤ z) (hz2 : z ≤ 1) : pw X d h 307 0 [some (.ref 141), some (pw_i fr), some (.ref 155), some (pw_i z), none] [] (fun h' v => pw_I h' ∧ pw_E [139, 168] h h' ∧ v = .inl none) := by
  have E : pm_ent 307 = some (4, 5, 12, 4, pmc_307) := rfl
  have E0 : pw_E [139, 168] h h := pw_E.rf _ _
  refine pw_ld E (pc' := 1) (st' := [pw_i 0]) rfl (fun _ => rfl) ?_
  refine pw_ist E (pc' := 3) (ls' := [some (.ref 141), some (pw_i fr), some (.ref 155), some (pw_i z), some (pw_i 0)]) rfl rfl rfl rfl ?_
  have L3 : ∀ (n3 : Nat) (k3_4 : Int) (gh3 : pm_H), pw_I gh3 → pw_E [139, 168] h gh3 → 0 ≤ k3_4 → k3_4 ≤ 288 → (288 - k3_4).toNat = n3 → pw X d gh3 307 3 [some (.ref 141), some (pw_i fr), some (.ref 155), some (pw_i z), some (pw_i k3_4)] [] (fun h' v => pw_I h' ∧ pw_E [139, 168] h h' ∧ v = .inl none) := by
    intro n3
    induction n3 using Nat.strongRecOn with
    | ind n3 ih3 =>
      intro k3_4 gh3 I3 E3 k3_4a k3_4b hm3
      refine pw_ld E (pc' := 5) (st' := [pw_i k3_4]) rfl (fun _ => rfl) ?_
      refine pw_sip E (pc' := 8) rfl rfl (by decide) ?_
      refine pw_if2 E (pc' := 50) rfl (by decide) (by omega) (by omega) (by decide) (by decide) ?_ ?_
      · intro hc1
        change (288 : Int) ≤ k3_4 at hc1
        refine pw_vret E rfl ?_
        exact ⟨I3, E3, rfl⟩
      · intro hc2
        change ¬ ((288 : Int) ≤ k3_4) at hc2
        refine pw_ld E (pc' := 12) (st' := [pw_i z]) rfl (fun _ => rfl) ?_
        refine pw_if E (pc' := 31) rfl (by decide) (by omega) (by omega) ?_ ?_
        · intro hc3
          change z = (0 : Int) at hc3
          refine pw_ld E (pc' := 32) (st' := [.ref 141]) rfl (fun _ => rfl) ?_
          refine pw_getR (b := 184) I3 E (c := 125) (k := 57) (pc' := 35) rfl rfl rfl rfl rfl rfl rfl ?_
          refine pw_ld E (pc' := 36) (st' := [pw_i fr, .ref 184]) rfl (fun _ => rfl) ?_
          refine pw_ld E (pc' := 38) (st' := [pw_i k3_4, pw_i fr, .ref 184]) rfl (fun _ => rfl) ?_
          refine pw_add E (pc' := 39) rfl rfl ?_
          refine pw_ld E (pc' := 40) (st' := [.ref 155, pw_i (fr + k3_4), .ref 184]) rfl (fun _ => rfl) ?_
          refine pw_ld E (pc' := 42) (st' := [pw_i k3_4, .ref 155, pw_i (fr + k3_4), .ref 184]) rfl (fun _ => rfl) ?_
          refine pw_ald2 I3 E (c := 139) (pc' := 43) rfl rfl rfl (by decide) rfl (by decide) (by omega) (by omega) rfl (fun hf4a hf4b => ?_)
          refine pw_ast0 I3 E (c := 168) (pc' := 44) rfl rfl rfl (by decide) rfl (by decide) (by omega) (by omega) rfl (by omega) (by omega) (by omega) (by omega) rfl ?_
          intro h5I h5E
          generalize h5w : pw_w gh3 168 ((fr + k3_4).toNat) (pw_i (pw_g gh3 139 (k3_4.toNat))) = h5 at h5I h5E ⊢
          have h5F := E3.tr (h5E.wk (W' := [139, 168]) (by first | rfl | simp))
          refine pw_inc E (pc' := 47) (ls' := [some (.ref 141), some (pw_i fr), some (.ref 155), some (pw_i z), some (pw_i (k3_4 + 1))]) rfl rfl rfl rfl ?_
          refine pw_goto E (pc' := 3) rfl (by decide) ?_
          exact ih3 _ (by omega) (k3_4 + 1) h5 h5I h5F (by omega) (by omega)  rfl
        · intro hc6
          change ¬ (z = (0 : Int)) at hc6
          refine pw_ld E (pc' := 16) (st' := [.ref 155]) rfl (fun _ => rfl) ?_
          refine pw_ld E (pc' := 18) (st' := [pw_i k3_4, .ref 155]) rfl (fun _ => rfl) ?_
          refine pw_ld E (pc' := 19) (st' := [.ref 141, pw_i k3_4, .ref 155]) rfl (fun _ => rfl) ?_
          refine pw_getR (b := 184) I3 E (c := 125) (k := 57) (pc' := 22) rfl rfl rfl rfl rfl rfl rfl ?_
          refine pw_ld E (pc' := 23) (st' := [pw_i fr, .ref 184, pw_i k3_4, .ref 155]) rfl (fun _ => rfl) ?_
          refine pw_ld E (pc' := 25) (st' := [pw_i k3_4, pw_i fr, .ref 184, pw_i k3_4, .ref 155]) rfl (fun _ => rfl) ?_
          refine pw_add E (pc' := 26) rfl rfl ?_
          refine pw_ald2 I3 E (c := 168) (pc' := 27) rfl rfl rfl (by decide) rfl (by decide) (by omega) (by omega) rfl (fun hf7a hf7b => ?_)
          refine pw_ast0 I3 E (c := 139) (pc' := 28) rfl rfl rfl (by decide) rfl (by decide) (by omega) (by omega) rfl (by omega) (by omega) (by omega) (by omega) rfl ?_
          intro h8I h8E
          generalize h8w : pw_w gh3 139 (k3_4.toNat) (pw_i (pw_g gh3 168 ((fr + k3_4).toNat))) = h8 at h8I h8E ⊢
          have h8F := E3.tr (h8E.wk (W' := [139, 168]) (by first | rfl | simp))
          refine pw_goto E (pc' := 44) rfl (by decide) ?_
          refine pw_inc E (pc' := 47) (ls' := [some (.ref 141), some (pw_i fr), some (.ref 155), some (pw_i z), some (pw_i (k3_4 + 1))]) rfl rfl rfl rfl ?_
          refine pw_goto E (pc' := 3) rfl (by decide) ?_
          exact ih3 _ (by omega) (k3_4 + 1) h8 h8I h8F (by omega) (by omega)  rfl
  exact L3 _ (0) h I E0 (by omega) (by omega)  rfl
set_option maxHeartbeats 4000000 in
theorem cm_307_140 {X : List (Nat × List Value)} {d : Nat} {h : pm_H} (hd : 1 ≤ d) (I : pw_I h) (fr : Int) (hfr1 : 0 ≤ fr) (hfr2 : fr ≤ 6624) (z : Int) (hz1 : 0 ≤ z) (hz2 : z ≤ 1) : pw X d h 307 0 [some (.ref 141), some (pw_i fr), some (.ref 156), some (pw_i z), none] [] (fun h' v => pw_I h' ∧ pw_E [140, 168] h h' ∧ v = .inl none) := by
  have E : pm_ent 307 = some (4, 5, 12, 4, pmc_307) := rfl
  have E0 : pw_E [140, 168] h h := pw_E.rf _ _
  refine pw_ld E (pc' := 1) (st' := [pw_i 0]) rfl (fun _ => rfl) ?_
  refine pw_ist E (pc' := 3) (ls' := [some (.ref 141), some (pw_i fr), some (.ref 156), some (pw_i z), some (pw_i 0)]) rfl rfl rfl rfl ?_
  have L3 : ∀ (n3 : Nat) (k3_4 : Int) (gh3 : pm_H), pw_I gh3 → pw_E [140, 168] h gh3 → 0 ≤ k3_4 → k3_4 ≤ 288 → (288 - k3_4).toNat = n3 → pw X d gh3 307 3 [some (.ref 141), some (pw_i fr), some (.ref 156), some (pw_i z), some (pw_i k3_4)] [] (fun h' v => pw_I h' ∧ pw_E [140, 168] h h' ∧ v = .inl none) := by
    intro n3
    induction n3 using Nat.strongRecOn with
    | ind n3 ih3 =>
      intro k3_4 gh3 I3 E3 k3_4a k3_4b hm3
      refine pw_ld E (pc' := 5) (st' := [pw_i k3_4]) rfl (fun _ => rfl) ?_
      refine pw_sip E (pc' := 8) rfl rfl (by decide) ?_
      refine pw_if2 E (pc' := 50) rfl (by decide) (by omega) (by omega) (by decide) (by decide) ?_ ?_
      · intro hc1
        change (288 : Int) ≤ k3_4 at hc1
        refine pw_vret E rfl ?_
        exact ⟨I3, E3, rfl⟩
      · intro hc2
        change ¬ ((288 : Int) ≤ k3_4) at hc2
        refine pw_ld E (pc' := 12) (st' := [pw_i z]) rfl (fun _ => rfl) ?_
        refine pw_if E (pc' := 31) rfl (by decide) (by omega) (by omega) ?_ ?_
        · intro hc3
          change z = (0 : Int) at hc3
          refine pw_ld E (pc' := 32) (st' := [.ref 141]) rfl (fun _ => rfl) ?_
          refine pw_getR (b := 184) I3 E (c := 125) (k := 57) (pc' := 35) rfl rfl rfl rfl rfl rfl rfl ?_
          refine pw_ld E (pc' := 36) (st' := [pw_i fr, .ref 184]) rfl (fun _ => rfl) ?_
          refine pw_ld E (pc' := 38) (st' := [pw_i k3_4, pw_i fr, .ref 184]) rfl (fun _ => rfl) ?_
          refine pw_add E (pc' := 39) rfl rfl ?_
          refine pw_ld E (pc' := 40) (st' := [.ref 156, pw_i (fr + k3_4), .ref 184]) rfl (fun _ => rfl) ?_
          refine pw_ld E (pc' := 42) (st' := [pw_i k3_4, .ref 156, pw_i (fr + k3_4), .ref 184]) rfl (fun _ => rfl) ?_
          refine pw_ald2 I3 E (c := 140) (pc' := 43) rfl rfl rfl (by decide) rfl (by decide) (by omega) (by omega) rfl (fun hf4a hf4b => ?_)
          refine pw_ast0 I3 E (c := 168) (pc' := 44) rfl rfl rfl (by decide) rfl (by decide) (by omega) (by omega) rfl (by omega) (by omega) (by omega) (by omega) rfl ?_
          intro h5I h5E
          generalize h5w : pw_w gh3 168 ((fr + k3_4).toNat) (pw_i (pw_g gh3 140 (k3_4.toNat))) = h5 at h5I h5E ⊢
          have h5F := E3.tr (h5E.wk (W' := [140, 168]) (by first | rfl | simp))
          refine pw_inc E (pc' := 47) (ls' := [some (.ref 141), some (pw_i fr), some (.ref 156), some (pw_i z), some (pw_i (k3_4 + 1))]) rfl rfl rfl rfl ?_
          refine pw_goto E (pc' := 3) rfl (by decide) ?_
          exact ih3 _ (by omega) (k3_4 + 1) h5 h5I h5F (by omega) (by omega)  rfl
        · intro hc6
          change ¬ (z = (0 : Int)) at hc6
          refine pw_ld E (pc' := 16) (st' := [.ref 156]) rfl (fun _ => rfl) ?_
          refine pw_ld E (pc' := 18) (st' := [pw_i k3_4, .ref 156]) rfl (fun _ => rfl) ?_
          refine pw_ld E (pc' := 19) (st' := [.ref 141, pw_i k3_4, .ref 156]) rfl (fun _ => rfl) ?_
          refine pw_getR (b := 184) I3 E (c := 125) (k := 57) (pc' := 22) rfl rfl rfl rfl rfl rfl rfl ?_
          refine pw_ld E (pc' := 23) (st' := [pw_i fr, .ref 184, pw_i k3_4, .ref 156]) rfl (fun _ => rfl) ?_
          refine pw_ld E (pc' := 25) (st' := [pw_i k3_4, pw_i fr, .ref 184, pw_i k3_4, .ref 156]) rfl (fun _ => rfl) ?_
          refine pw_add E (pc' := 26) rfl rfl ?_
          refine pw_ald2 I3 E (c := 168) (pc' := 27) rfl rfl rfl (by decide) rfl (by decide) (by omega) (by omega) rfl (fun hf7a hf7b => ?_)
          refine pw_ast0 I3 E (c := 140) (pc' := 28) rfl rfl rfl (by decide) rfl (by decide) (by omega) (by omega) rfl (by omega) (by omega) (by omega) (by omega) rfl ?_
          intro h8I h8E
          generalize h8w : pw_w gh3 140 (k3_4.toNat) (pw_i (pw_g gh3 168 ((fr + k3_4).toNat))) = h8 at h8I h8E ⊢
          have h8F := E3.tr (h8E.wk (W' := [140, 168]) (by first | rfl | simp))
          refine pw_goto E (pc' := 44) rfl (by decide) ?_
          refine pw_inc E (pc' := 47) (ls' := [some (.ref 141), some (pw_i fr), some (.ref 156), some (pw_i z), some (pw_i (k3_4 + 1))]) rfl rfl rfl rfl ?_
          refine pw_goto E (pc' := 3) rfl (by decide) ?_
          exact ih3 _ (by omega) (k3_4 + 1) h8 h8I h8F (by omega) (by omega)  rfl
  exact L3 _ (0) h I E0 (by omega) (by omega)  rfl
set_option maxHeartbeats 4000000 in
theorem cm_307_141 {X : List (Nat × List Value)} {d : Nat} {h : pm_H} (hd : 1 ≤ d) (I : pw_I h) (fr : Int) (hfr1 : 0 ≤ fr) (hfr2 : fr ≤ 6624) (z : Int) (hz1 : 0 ≤ z) (hz2 : z ≤ 1) : pw X d h 307 0 [some (.ref 141), some (pw_i fr), some (.ref 157), some (pw_i z), none] [] (fun h' v => pw_I h' ∧ pw_E [141, 168] h h' ∧ v = .inl none) := by
  have E : pm_ent 307 = some (4, 5, 12, 4, pmc_307) := rfl
  have E0 : pw_E [141, 168] h h := pw_E.rf _ _
  refine pw_ld E (pc' := 1) (st' := [pw_i 0]) rfl (fun _ => rfl) ?_
  refine pw_ist E (pc' := 3) (ls' := [some (.ref 141), some (pw_i fr), some (.ref 157), some (pw_i z), some (pw_i 0)]) rfl rfl rfl rfl ?_
  have L3 : ∀ (n3 : Nat) (k3_4 : Int) (gh3 : pm_H), pw_I gh3 → pw_E [141, 168] h gh3 → 0 ≤ k3_4 → k3_4 ≤ 288 → (288 - k3_4).toNat = n3 → pw X d gh3 307 3 [some (.ref 141), some (pw_i fr), some (.ref 157), some (pw_i z), some (pw_i k3_4)] [] (fun h' v => pw_I h' ∧ pw_E [141, 168] h h' ∧ v = .inl none) := by
    intro n3
    induction n3 using Nat.strongRecOn with
    | ind n3 ih3 =>
      intro k3_4 gh3 I3 E3 k3_4a k3_4b hm3
      refine pw_ld E (pc' := 5) (st' := [pw_i k3_4]) rfl (fun _ => rfl) ?_
      refine pw_sip E (pc' := 8) rfl rfl (by decide) ?_
      refine pw_if2 E (pc' := 50) rfl (by decide) (by omega) (by omega) (by decide) (by decide) ?_ ?_
      · intro hc1
        change (288 : Int) ≤ k3_4 at hc1
        refine pw_vret E rfl ?_
        exact ⟨I3, E3, rfl⟩
      · intro hc2
        change ¬ ((288 : Int) ≤ k3_4) at hc2
        refine pw_ld E (pc' := 12) (st' := [pw_i z]) rfl (fun _ => rfl) ?_
        refine pw_if E (pc' := 31) rfl (by decide) (by omega) (by omega) ?_ ?_
        · intro hc3
          change z = (0 : Int) at hc3
          refine pw_ld E (pc' := 32) (st' := [.ref 141]) rfl (fun _ => rfl) ?_
          refine pw_getR (b := 184) I3 E (c := 125) (k := 57) (pc' := 35) rfl rfl rfl rfl rfl rfl rfl ?_
          refine pw_ld E (pc' := 36) (st' := [pw_i fr, .ref 184]) rfl (fun _ => rfl) ?_
          refine pw_ld E (pc' := 38) (st' := [pw_i k3_4, pw_i fr, .ref 184]) rfl (fun _ => rfl) ?_
          refine pw_add E (pc' := 39) rfl rfl ?_
          refine pw_ld E (pc' := 40) (st' := [.ref 157, pw_i (fr + k3_4), .ref 184]) rfl (fun _ => rfl) ?_
          refine pw_ld E (pc' := 42) (st' := [pw_i k3_4, .ref 157, pw_i (fr + k3_4), .ref 184]) rfl (fun _ => rfl) ?_
          refine pw_ald2 I3 E (c := 141) (pc' := 43) rfl rfl rfl (by decide) rfl (by decide) (by omega) (by omega) rfl (fun hf4a hf4b => ?_)
          refine pw_ast0 I3 E (c := 168) (pc' := 44) rfl rfl rfl (by decide) rfl (by decide) (by omega) (by omega) rfl (by omega) (by omega) (by omega) (by omega) rfl ?_
          intro h5I h5E
          generalize h5w : pw_w gh3 168 ((fr + k3_4).toNat) (pw_i (pw_g gh3 141 (k3_4.toNat))) = h5 at h5I h5E ⊢
          have h5F := E3.tr (h5E.wk (W' := [141, 168]) (by first | rfl | simp))
          refine pw_inc E (pc' := 47) (ls' := [some (.ref 141), some (pw_i fr), some (.ref 157), some (pw_i z), some (pw_i (k3_4 + 1))]) rfl rfl rfl rfl ?_
          refine pw_goto E (pc' := 3) rfl (by decide) ?_
          exact ih3 _ (by omega) (k3_4 + 1) h5 h5I h5F (by omega) (by omega)  rfl
        · intro hc6
          change ¬ (z = (0 : Int)) at hc6
          refine pw_ld E (pc' := 16) (st' := [.ref 157]) rfl (fun _ => rfl) ?_
          refine pw_ld E (pc' := 18) (st' := [pw_i k3_4, .ref 157]) rfl (fun _ => rfl) ?_
          refine pw_ld E (pc' := 19) (st' := [.ref 141, pw_i k3_4, .ref 157]) rfl (fun _ => rfl) ?_
          refine pw_getR (b := 184) I3 E (c := 125) (k := 57) (pc' := 22) rfl rfl rfl rfl rfl rfl rfl ?_
          refine pw_ld E (pc' := 23) (st' := [pw_i fr, .ref 184, pw_i k3_4, .ref 157]) rfl (fun _ => rfl) ?_
          refine pw_ld E (pc' := 25) (st' := [pw_i k3_4, pw_i fr, .ref 184, pw_i k3_4, .ref 157]) rfl (fun _ => rfl) ?_
          refine pw_add E (pc' := 26) rfl rfl ?_
          refine pw_ald2 I3 E (c := 168) (pc' := 27) rfl rfl rfl (by decide) rfl (by decide) (by omega) (by omega) rfl (fun hf7a hf7b => ?_)
          refine pw_ast0 I3 E (c := 141) (pc' := 28) rfl rfl rfl (by decide) rfl (by decide) (by omega) (by omega) rfl (by omega) (by omega) (by omega) (by omega) rfl ?_
          intro h8I h8E
          generalize h8w : pw_w gh3 141 (k3_4.toNat) (pw_i (pw_g gh3 168 ((fr + k3_4).toNat))) = h8 at h8I h8E ⊢
          have h8F := E3.tr (h8E.wk (W' := [141, 168]) (by first | rfl | simp))
          refine pw_goto E (pc' := 44) rfl (by decide) ?_
          refine pw_inc E (pc' := 47) (ls' := [some (.ref 141), some (pw_i fr), some (.ref 157), some (pw_i z), some (pw_i (k3_4 + 1))]) rfl rfl rfl rfl ?_
          refine pw_goto E (pc' := 3) rfl (by decide) ?_
          exact ih3 _ (by omega) (k3_4 + 1) h8 h8I h8F (by omega) (by omega)  rfl
  exact L3 _ (0) h I E0 (by omega) (by omega)  rfl
set_option maxHeartbeats 4000000 in
theorem cm_307_142 {X : List (Nat × List Value)} {d : Nat} {h : pm_H} (hd : 1 ≤ d) (I : pw_I h) (fr : Int) (hfr1 : 0 ≤ fr) (hfr2 : fr ≤ 6624) (z : Int) (hz1 : 0 ≤ z) (hz2 : z ≤ 1) : pw X d h 307 0 [some (.ref 141), some (pw_i fr), some (.ref 158), some (pw_i z), none] [] (fun h' v => pw_I h' ∧ pw_E [142, 168] h h' ∧ v = .inl none) := by
  have E : pm_ent 307 = some (4, 5, 12, 4, pmc_307) := rfl
  have E0 : pw_E [142, 168] h h := pw_E.rf _ _
  refine pw_ld E (pc' := 1) (st' := [pw_i 0]) rfl (fun _ => rfl) ?_
  refine pw_ist E (pc' := 3) (ls' := [some (.ref 141), some (pw_i fr), some (.ref 158), some (pw_i z), some (pw_i 0)]) rfl rfl rfl rfl ?_
  have L3 : ∀ (n3 : Nat) (k3_4 : Int) (gh3 : pm_H), pw_I gh3 → pw_E [142, 168] h gh3 → 0 ≤ k3_4 → k3_4 ≤ 288 → (288 - k3_4).toNat = n3 → pw X d gh3 307 3 [some (.ref 141), some (pw_i fr), some (.ref 158), some (pw_i z), some (pw_i k3_4)] [] (fun h' v => pw_I h' ∧ pw_E [142, 168] h h' ∧ v = .inl none) := by
    intro n3
    induction n3 using Nat.strongRecOn with
    | ind n3 ih3 =>
      intro k3_4 gh3 I3 E3 k3_4a k3_4b hm3
      refine pw_ld E (pc' := 5) (st' := [pw_i k3_4]) rfl (fun _ => rfl) ?_
      refine pw_sip E (pc' := 8) rfl rfl (by decide) ?_
      refine pw_if2 E (pc' := 50) rfl (by decide) (by omega) (by omega) (by decide) (by decide) ?_ ?_
      · intro hc1
        change (288 : Int) ≤ k3_4 at hc1
        refine pw_vret E rfl ?_
        exact ⟨I3, E3, rfl⟩
      · intro hc2
        change ¬ ((288 : Int) ≤ k3_4) at hc2
        refine pw_ld E (pc' := 12) (st' := [pw_i z]) rfl (fun _ => rfl) ?_
        refine pw_if E (pc' := 31) rfl (by decide) (by omega) (by omega) ?_ ?_
        · intro hc3
          change z = (0 : Int) at hc3
          refine pw_ld E (pc' := 32) (st' := [.ref 141]) rfl (fun _ => rfl) ?_
          refine pw_getR (b := 184) I3 E (c := 125) (k := 57) (pc' := 35) rfl rfl rfl rfl rfl rfl rfl ?_
          refine pw_ld E (pc' := 36) (st' := [pw_i fr, .ref 184]) rfl (fun _ => rfl) ?_
          refine pw_ld E (pc' := 38) (st' := [pw_i k3_4, pw_i fr, .ref 184]) rfl (fun _ => rfl) ?_
          refine pw_add E (pc' := 39) rfl rfl ?_
          refine pw_ld E (pc' := 40) (st' := [.ref 158, pw_i (fr + k3_4), .ref 184]) rfl (fun _ => rfl) ?_
          refine pw_ld E (pc' := 42) (st' := [pw_i k3_4, .ref 158, pw_i (fr + k3_4), .ref 184]) rfl (fun _ => rfl) ?_
          refine pw_ald2 I3 E (c := 142) (pc' := 43) rfl rfl rfl (by decide) rfl (by decide) (by omega) (by omega) rfl (fun hf4a hf4b => ?_)
          refine pw_ast0 I3 E (c := 168) (pc' := 44) rfl rfl rfl (by decide) rfl (by decide) (by omega) (by omega) rfl (by omega) (by omega) (by omega) (by omega) rfl ?_
          intro h5I h5E
          generalize h5w : pw_w gh3 168 ((fr + k3_4).toNat) (pw_i (pw_g gh3 142 (k3_4.toNat))) = h5 at h5I h5E ⊢
          have h5F := E3.tr (h5E.wk (W' := [142, 168]) (by first | rfl | simp))
          refine pw_inc E (pc' := 47) (ls' := [some (.ref 141), some (pw_i fr), some (.ref 158), some (pw_i z), some (pw_i (k3_4 + 1))]) rfl rfl rfl rfl ?_
          refine pw_goto E (pc' := 3) rfl (by decide) ?_
          exact ih3 _ (by omega) (k3_4 + 1) h5 h5I h5F (by omega) (by omega)  rfl
        · intro hc6
          change ¬ (z = (0 : Int)) at hc6
          refine pw_ld E (pc' := 16) (st' := [.ref 158]) rfl (fun _ => rfl) ?_
          refine pw_ld E (pc' := 18) (st' := [pw_i k3_4, .ref 158]) rfl (fun _ => rfl) ?_
          refine pw_ld E (pc' := 19) (st' := [.ref 141, pw_i k3_4, .ref 158]) rfl (fun _ => rfl) ?_
          refine pw_getR (b := 184) I3 E (c := 125) (k := 57) (pc' := 22) rfl rfl rfl rfl rfl rfl rfl ?_
          refine pw_ld E (pc' := 23) (st' := [pw_i fr, .ref 184, pw_i k3_4, .ref 158]) rfl (fun _ => rfl) ?_
          refine pw_ld E (pc' := 25) (st' := [pw_i k3_4, pw_i fr, .ref 184, pw_i k3_4, .ref 158]) rfl (fun _ => rfl) ?_
          refine pw_add E (pc' := 26) rfl rfl ?_
          refine pw_ald2 I3 E (c := 168) (pc' := 27) rfl rfl rfl (by decide) rfl (by decide) (by omega) (by omega) rfl (fun hf7a hf7b => ?_)
          refine pw_ast0 I3 E (c := 142) (pc' := 28) rfl rfl rfl (by decide) rfl (by decide) (by omega) (by omega) rfl (by omega) (by omega) (by omega) (by omega) rfl ?_
          intro h8I h8E
          generalize h8w : pw_w gh3 142 (k3_4.toNat) (pw_i (pw_g gh3 168 ((fr + k3_4).toNat))) = h8 at h8I h8E ⊢
          have h8F := E3.tr (h8E.wk (W' := [142, 168]) (by first | rfl | simp))
          refine pw_goto E (pc' := 44) rfl (by decide) ?_
          refine pw_inc E (pc' := 47) (ls' := [some (.ref 141), some (pw_i fr), some (.ref 158), some (pw_i z), some (pw_i (k3_4 + 1))]) rfl rfl rfl rfl ?_
          refine pw_goto E (pc' := 3) rfl (by decide) ?_
          exact ih3 _ (by omega) (k3_4 + 1) h8 h8I h8F (by omega) (by omega)  rfl
  exact L3 _ (0) h I E0 (by omega) (by omega)  rfl
set_option maxHeartbeats 4000000 in
theorem cm_307_143 {X : List (Nat × List Value)} {d : Nat} {h : pm_H} (hd : 1 ≤ d) (I : pw_I h) (fr : Int) (hfr1 : 0 ≤ fr) (hfr2 : fr ≤ 6624) (z : Int) (hz1 : 0 ≤ z) (hz2 : z ≤ 1) : pw X d h 307 0 [some (.ref 141), some (pw_i fr), some (.ref 159), some (pw_i z), none] [] (fun h' v => pw_I h' ∧ pw_E [143, 168] h h' ∧ v = .inl none) := by
  have E : pm_ent 307 = some (4, 5, 12, 4, pmc_307) := rfl
  have E0 : pw_E [143, 168] h h := pw_E.rf _ _
  refine pw_ld E (pc' := 1) (st' := [pw_i 0]) rfl (fun _ => rfl) ?_
  refine pw_ist E (pc' := 3) (ls' := [some (.ref 141), some (pw_i fr), some (.ref 159), some (pw_i z), some (pw_i 0)]) rfl rfl rfl rfl ?_
  have L3 : ∀ (n3 : Nat) (k3_4 : Int) (gh3 : pm_H), pw_I gh3 → pw_E [143, 168] h gh3 → 0 ≤ k3_4 → k3_4 ≤ 288 → (288 - k3_4).toNat = n3 → pw X d gh3 307 3 [some (.ref 141), some (pw_i fr), some (.ref 159), some (pw_i z), some (pw_i k3_4)] [] (fun h' v => pw_I h' ∧ pw_E [143, 168] h h' ∧ v = .inl none) := by
    intro n3
    induction n3 using Nat.strongRecOn with
    | ind n3 ih3 =>
      intro k3_4 gh3 I3 E3 k3_4a k3_4b hm3
      refine pw_ld E (pc' := 5) (st' := [pw_i k3_4]) rfl (fun _ => rfl) ?_
      refine pw_sip E (pc' := 8) rfl rfl (by decide) ?_
      refine pw_if2 E (pc' := 50) rfl (by decide) (by omega) (by omega) (by decide) (by decide) ?_ ?_
      · intro hc1
        change (288 : Int) ≤ k3_4 at hc1
        refine pw_vret E rfl ?_
        exact ⟨I3, E3, rfl⟩
      · intro hc2
        change ¬ ((288 : Int) ≤ k3_4) at hc2
        refine pw_ld E (pc' := 12) (st' := [pw_i z]) rfl (fun _ => rfl) ?_
        refine pw_if E (pc' := 31) rfl (by decide) (by omega) (by omega) ?_ ?_
        · intro hc3
          change z = (0 : Int) at hc3
          refine pw_ld E (pc' := 32) (st' := [.ref 141]) rfl (fun _ => rfl) ?_
          refine pw_getR (b := 184) I3 E (c := 125) (k := 57) (pc' := 35) rfl rfl rfl rfl rfl rfl rfl ?_
          refine pw_ld E (pc' := 36) (st' := [pw_i fr, .ref 184]) rfl (fun _ => rfl) ?_
          refine pw_ld E (pc' := 38) (st' := [pw_i k3_4, pw_i fr, .ref 184]) rfl (fun _ => rfl) ?_
          refine pw_add E (pc' := 39) rfl rfl ?_
          refine pw_ld E (pc' := 40) (st' := [.ref 159, pw_i (fr + k3_4), .ref 184]) rfl (fun _ => rfl) ?_
          refine pw_ld E (pc' := 42) (st' := [pw_i k3_4, .ref 159, pw_i (fr + k3_4), .ref 184]) rfl (fun _ => rfl) ?_
          refine pw_ald2 I3 E (c := 143) (pc' := 43) rfl rfl rfl (by decide) rfl (by decide) (by omega) (by omega) rfl (fun hf4a hf4b => ?_)
          refine pw_ast0 I3 E (c := 168) (pc' := 44) rfl rfl rfl (by decide) rfl (by decide) (by omega) (by omega) rfl (by omega) (by omega) (by omega) (by omega) rfl ?_
          intro h5I h5E
          generalize h5w : pw_w gh3 168 ((fr + k3_4).toNat) (pw_i (pw_g gh3 143 (k3_4.toNat))) = h5 at h5I h5E ⊢
          have h5F := E3.tr (h5E.wk (W' := [143, 168]) (by first | rfl | simp))
          refine pw_inc E (pc' := 47) (ls' := [some (.ref 141), some (pw_i fr), some (.ref 159), some (pw_i z), some (pw_i (k3_4 + 1))]) rfl rfl rfl rfl ?_
          refine pw_goto E (pc' := 3) rfl (by decide) ?_
          exact ih3 _ (by omega) (k3_4 + 1) h5 h5I h5F (by omega) (by omega)  rfl
        · intro hc6
          change ¬ (z = (0 : Int)) at hc6
          refine pw_ld E (pc' := 16) (st' := [.ref 159]) rfl (fun _ => rfl) ?_
          refine pw_ld E (pc' := 18) (st' := [pw_i k3_4, .ref 159]) rfl (fun _ => rfl) ?_
          refine pw_ld E (pc' := 19) (st' := [.ref 141, pw_i k3_4, .ref 159]) rfl (fun _ => rfl) ?_
          refine pw_getR (b := 184) I3 E (c := 125) (k := 57) (pc' := 22) rfl rfl rfl rfl rfl rfl rfl ?_
          refine pw_ld E (pc' := 23) (st' := [pw_i fr, .ref 184, pw_i k3_4, .ref 159]) rfl (fun _ => rfl) ?_
          refine pw_ld E (pc' := 25) (st' := [pw_i k3_4, pw_i fr, .ref 184, pw_i k3_4, .ref 159]) rfl (fun _ => rfl) ?_
          refine pw_add E (pc' := 26) rfl rfl ?_
          refine pw_ald2 I3 E (c := 168) (pc' := 27) rfl rfl rfl (by decide) rfl (by decide) (by omega) (by omega) rfl (fun hf7a hf7b => ?_)
          refine pw_ast0 I3 E (c := 143) (pc' := 28) rfl rfl rfl (by decide) rfl (by decide) (by omega) (by omega) rfl (by omega) (by omega) (by omega) (by omega) rfl ?_
          intro h8I h8E
          generalize h8w : pw_w gh3 143 (k3_4.toNat) (pw_i (pw_g gh3 168 ((fr + k3_4).toNat))) = h8 at h8I h8E ⊢
          have h8F := E3.tr (h8E.wk (W' := [143, 168]) (by first | rfl | simp))
          refine pw_goto E (pc' := 44) rfl (by decide) ?_
          refine pw_inc E (pc' := 47) (ls' := [some (.ref 141), some (pw_i fr), some (.ref 159), some (pw_i z), some (pw_i (k3_4 + 1))]) rfl rfl rfl rfl ?_
          refine pw_goto E (pc' := 3) rfl (by decide) ?_
          exact ih3 _ (by omega) (k3_4 + 1) h8 h8I h8F (by omega) (by omega)  rfl
  exact L3 _ (0) h I E0 (by omega) (by omega)  rfl
set_option maxHeartbeats 4000000 in
theorem cm_306 {X : List (Nat × List Value)} {d : Nat} {h : pm_H} (hd : 2 ≤ d) (I : pw_I h) (mk : Int) (hmk1 : (-2147483648) ≤ mk) (hmk2 : mk ≤ 2147483647) (z : Int) (hz1 : 0 ≤ z) (hz2 : z ≤ 1) : pw X d h 306 0 [some (.ref 141), some (pw_i mk), some (pw_i z), none] [] (fun h' v => pw_I h' ∧ pw_E [125, 138, 139, 140, 141, 142, 143, 166, 167, 168, 1041] h h' ∧ ∃ a : Int, v = .inl (some (pw_i a)) ∧ 0 ≤ a ∧ a ≤ 1) := by
  have E : pm_ent 306 = some (3, 4, 12, 1, pmc_306) := rfl
  have E0 : pw_E [125, 138, 139, 140, 141, 142, 143, 166, 167, 168, 1041] h h := pw_E.rf _ _
  refine pw_ld E (pc' := 1) (st' := [.ref 141]) rfl (fun _ => rfl) ?_
  refine pw_ld E (pc' := 2) (st' := [pw_i 0, .ref 141]) rfl (fun _ => rfl) ?_
  refine pw_putI I E (c := 125) (k := 0) (pc' := 5) rfl rfl rfl rfl (by omega) (by omega) (by omega) (by omega) rfl rfl ?_
  intro h1I h1E
  generalize h1w : pw_w h 125 0 (pw_i 0) = h1 at h1I h1E ⊢
  have h1F := E0.tr (h1E.wk (W' := [125, 138, 139, 140, 141, 142, 143, 166, 167, 168, 1041]) (by first | rfl | simp))
  refine pw_ld E (pc' := 6) (st' := [pw_i mk]) rfl (fun _ => rfl) ?_
  refine pw_ld E (pc' := 7) (st' := [pw_i 0, pw_i mk]) rfl (fun _ => rfl) ?_
  refine pw_ld E (pc' := 8) (st' := [pw_i 3, pw_i 0, pw_i mk]) rfl (fun _ => rfl) ?_
  refine pw_call (m' := 202) (As := [pw_i mk, pw_i 0, pw_i 3]) (rest := []) (ls'' := [some (pw_i mk), some (pw_i 0), some (pw_i 3)]) (Nat.le_trans (by decide) hd) E rfl (fun _ => pw_iS rfl rfl rfl) (rfl : pm_ent 202 = some (3, 3, 12, 1, pmc_202)) rfl rfl (cm_202 (pw_dp hd (by decide)) h1I (mk) (by omega) (by omega) (0) (by omega) (by omega) (3) (by omega) (by omega)) ?_
  rintro u3 v2 ⟨rfl, x4, rfl, hx4a, hx4b, hx4r⟩
  refine ⟨_, rfl, ?_⟩
  show pw X d h1 306 11 [some (.ref 141), some (pw_i mk), some (pw_i z), none] [pw_i x4] _
  change (x4 = 1 ∧ 0 ≤ mk ∧ mk ≤ 3) ∨ (x4 = 0 ∧ ¬ (0 ≤ mk ∧ mk ≤ 3)) at hx4r
  rcases (by omega : x4 = 1 ∨ x4 = 0) with hb5 | hb5
  · skip
    refine pw_if E (pc' := 40) rfl (by decide) (by omega) (by omega) ?_ ?_
    · intro hc6
      change x4 = (0 : Int) at hc6
      exfalso; omega
    · intro hc7
      change ¬ (x4 = (0 : Int)) at hc7
      refine pw_ld E (pc' := 15) (st' := [pw_i z]) rfl (fun _ => rfl) ?_
      refine pw_if E (pc' := 42) rfl (by decide) (by omega) (by omega) ?_ ?_
      · intro hc8
        change z = (0 : Int) at hc8
        refine pw_ld E (pc' := 43) (st' := [pw_i z]) rfl (fun _ => rfl) ?_
        refine pw_if E (pc' := 59) rfl (by decide) (by omega) (by omega) ?_ ?_
        · intro hc9
          change z = (0 : Int) at hc9
          refine pw_ld E (pc' := 60) (st' := [.ref 141]) rfl (fun _ => rfl) ?_
          refine pw_getR (b := 182) h1I E (c := 125) (k := 55) (pc' := 63) rfl rfl rfl rfl rfl rfl rfl ?_
          refine pw_ld E (pc' := 64) (st' := [pw_i mk, .ref 182]) rfl (fun _ => rfl) ?_
          refine pw_ld E (pc' := 65) (st' := [pw_i 1, pw_i mk, .ref 182]) rfl (fun _ => rfl) ?_
          refine pw_ast0 h1I E (c := 166) (pc' := 66) rfl rfl rfl (by decide) rfl (by decide) (by omega) (by omega) (pw_b1 (by omega) (by omega)) (by omega) (by omega) (by omega) (by omega) rfl ?_
          intro h10I h10E
          generalize h10w : pw_w h1 166 (mk.toNat) (pw_i 1) = h10 at h10I h10E ⊢
          have h10F := h1F.tr (h10E.wk (W' := [125, 138, 139, 140, 141, 142, 143, 166, 167, 168, 1041]) (by first | rfl | simp))
          refine pw_ld E (pc' := 67) (st' := [.ref 141]) rfl (fun _ => rfl) ?_
          refine pw_getR (b := 183) h10I E (c := 125) (k := 56) (pc' := 70) rfl rfl rfl rfl rfl rfl rfl ?_
          refine pw_ld E (pc' := 71) (st' := [pw_i mk, .ref 183]) rfl (fun _ => rfl) ?_
          refine pw_ld E (pc' := 72) (st' := [.ref 141, pw_i mk, .ref 183]) rfl (fun _ => rfl) ?_
          refine pw_getI2 h10I E (c := 125) (k := 41) (pc' := 75) rfl rfl rfl rfl rfl rfl (fun hf11a hf11b => ?_)
          refine pw_ast0 h10I E (c := 167) (pc' := 76) rfl rfl rfl (by decide) rfl (by decide) (by omega) (by omega) rfl (by omega) (by omega) (by omega) (by omega) rfl ?_
          intro h12I h12E
          generalize h12w : pw_w h10 167 (mk.toNat) (pw_i (pw_g h10 125 41)) = h12 at h12I h12E ⊢
          have h12F := h10F.tr (h12E.wk (W' := [125, 138, 139, 140, 141, 142, 143, 166, 167, 168, 1041]) (by first | rfl | simp))
          refine pw_sip E (pc' := 79) rfl rfl (by decide) ?_
          refine pw_ld E (pc' := 80) (st' := [pw_i mk, pw_i 1728]) rfl (fun _ => rfl) ?_
          refine pw_mul E (pc' := 81) rfl rfl ?_
          refine pw_istn E (pc' := 82) (ls' := [some (.ref 141), some (pw_i mk), some (pw_i z), some (pw_i (1728 * mk))]) rfl rfl rfl rfl ?_
          refine pw_ld E (pc' := 83) (st' := [.ref 141]) rfl (fun _ => rfl) ?_
          refine pw_ld E (pc' := 84) (st' := [pw_i (1728 * mk), .ref 141]) rfl (fun _ => rfl) ?_
          refine pw_ld E (pc' := 85) (st' := [.ref 141, pw_i (1728 * mk), .ref 141]) rfl (fun _ => rfl) ?_
          refine pw_getR (b := 154) h12I E (c := 125) (k := 18) (pc' := 88) rfl rfl rfl rfl rfl rfl rfl ?_
          refine pw_ld E (pc' := 89) (st' := [pw_i z, .ref 154, pw_i (1728 * mk), .ref 141]) rfl (fun _ => rfl) ?_
          obtain ⟨f13l, f13h, -⟩ := pw_obj (c := 125) h12I rfl
          refine pw_call (m' := 307) (As := [.ref 141, pw_i (1728 * mk), .ref 154, pw_i z]) (rest := []) (ls'' := [some (.ref 141), some (pw_i (1728 * mk)), some (.ref 154), some (pw_i z), none]) (Nat.le_trans (by decide) hd) E rfl (fun _ => pw_iV rfl rfl rfl rfl (pw_cellI f13h rfl)) (rfl : pm_ent 307 = some (4, 5, 12, 4, pmc_307)) rfl rfl (cm_307_138 (pw_dp hd (by decide)) h12I (1728 * mk) (by omega) (by omega) (z) (by omega) (by omega)) ?_
          rintro h14 v15 ⟨h14I, h14E, rfl⟩
          refine ⟨_, rfl, ?_⟩
          have h14F := h12F.tr (h14E.wk (W' := [125, 138, 139, 140, 141, 142, 143, 166, 167, 168, 1041]) (by first | rfl | simp))
          show pw X d h14 306 92 [some (.ref 141), some (pw_i mk), some (pw_i z), some (pw_i (1728 * mk))] [] _
          refine pw_ld E (pc' := 93) (st' := [.ref 141]) rfl (fun _ => rfl) ?_
          refine pw_ld E (pc' := 94) (st' := [pw_i (1728 * mk), .ref 141]) rfl (fun _ => rfl) ?_
          refine pw_sip E (pc' := 97) rfl rfl (by decide) ?_
          refine pw_add E (pc' := 98) rfl rfl ?_
          refine pw_ld E (pc' := 99) (st' := [.ref 141, pw_i ((1728 * mk) + 288), .ref 141]) rfl (fun _ => rfl) ?_
          refine pw_getR (b := 155) h14I E (c := 125) (k := 19) (pc' := 102) rfl rfl rfl rfl rfl rfl rfl ?_
          refine pw_ld E (pc' := 103) (st' := [pw_i z, .ref 155, pw_i ((1728 * mk) + 288), .ref 141]) rfl (fun _ => rfl) ?_
          obtain ⟨f16l, f16h, -⟩ := pw_obj (c := 125) h14I rfl
          refine pw_call (m' := 307) (As := [.ref 141, pw_i ((1728 * mk) + 288), .ref 155, pw_i z]) (rest := []) (ls'' := [some (.ref 141), some (pw_i ((1728 * mk) + 288)), some (.ref 155), some (pw_i z), none]) (Nat.le_trans (by decide) hd) E rfl (fun _ => pw_iV rfl rfl rfl rfl (pw_cellI f16h rfl)) (rfl : pm_ent 307 = some (4, 5, 12, 4, pmc_307)) rfl rfl (cm_307_139 (pw_dp hd (by decide)) h14I ((1728 * mk) + 288) (by omega) (by omega) (z) (by omega) (by omega)) ?_
          rintro h17 v18 ⟨h17I, h17E, rfl⟩
          refine ⟨_, rfl, ?_⟩
          have h17F := h14F.tr (h17E.wk (W' := [125, 138, 139, 140, 141, 142, 143, 166, 167, 168, 1041]) (by first | rfl | simp))
          show pw X d h17 306 106 [some (.ref 141), some (pw_i mk), some (pw_i z), some (pw_i (1728 * mk))] [] _
          refine pw_ld E (pc' := 107) (st' := [.ref 141]) rfl (fun _ => rfl) ?_
          refine pw_ld E (pc' := 108) (st' := [pw_i (1728 * mk), .ref 141]) rfl (fun _ => rfl) ?_
          refine pw_sip E (pc' := 111) rfl rfl (by decide) ?_
          refine pw_add E (pc' := 112) rfl rfl ?_
          refine pw_ld E (pc' := 113) (st' := [.ref 141, pw_i ((1728 * mk) + 576), .ref 141]) rfl (fun _ => rfl) ?_
          refine pw_getR (b := 156) h17I E (c := 125) (k := 20) (pc' := 116) rfl rfl rfl rfl rfl rfl rfl ?_
          refine pw_ld E (pc' := 117) (st' := [pw_i z, .ref 156, pw_i ((1728 * mk) + 576), .ref 141]) rfl (fun _ => rfl) ?_
          obtain ⟨f19l, f19h, -⟩ := pw_obj (c := 125) h17I rfl
          refine pw_call (m' := 307) (As := [.ref 141, pw_i ((1728 * mk) + 576), .ref 156, pw_i z]) (rest := []) (ls'' := [some (.ref 141), some (pw_i ((1728 * mk) + 576)), some (.ref 156), some (pw_i z), none]) (Nat.le_trans (by decide) hd) E rfl (fun _ => pw_iV rfl rfl rfl rfl (pw_cellI f19h rfl)) (rfl : pm_ent 307 = some (4, 5, 12, 4, pmc_307)) rfl rfl (cm_307_140 (pw_dp hd (by decide)) h17I ((1728 * mk) + 576) (by omega) (by omega) (z) (by omega) (by omega)) ?_
          rintro h20 v21 ⟨h20I, h20E, rfl⟩
          refine ⟨_, rfl, ?_⟩
          have h20F := h17F.tr (h20E.wk (W' := [125, 138, 139, 140, 141, 142, 143, 166, 167, 168, 1041]) (by first | rfl | simp))
          show pw X d h20 306 120 [some (.ref 141), some (pw_i mk), some (pw_i z), some (pw_i (1728 * mk))] [] _
          refine pw_ld E (pc' := 121) (st' := [.ref 141]) rfl (fun _ => rfl) ?_
          refine pw_ld E (pc' := 122) (st' := [pw_i (1728 * mk), .ref 141]) rfl (fun _ => rfl) ?_
          refine pw_sip E (pc' := 125) rfl rfl (by decide) ?_
          refine pw_add E (pc' := 126) rfl rfl ?_
          refine pw_ld E (pc' := 127) (st' := [.ref 141, pw_i ((1728 * mk) + 864), .ref 141]) rfl (fun _ => rfl) ?_
          refine pw_getR (b := 157) h20I E (c := 125) (k := 21) (pc' := 130) rfl rfl rfl rfl rfl rfl rfl ?_
          refine pw_ld E (pc' := 131) (st' := [pw_i z, .ref 157, pw_i ((1728 * mk) + 864), .ref 141]) rfl (fun _ => rfl) ?_
          obtain ⟨f22l, f22h, -⟩ := pw_obj (c := 125) h20I rfl
          refine pw_call (m' := 307) (As := [.ref 141, pw_i ((1728 * mk) + 864), .ref 157, pw_i z]) (rest := []) (ls'' := [some (.ref 141), some (pw_i ((1728 * mk) + 864)), some (.ref 157), some (pw_i z), none]) (Nat.le_trans (by decide) hd) E rfl (fun _ => pw_iV rfl rfl rfl rfl (pw_cellI f22h rfl)) (rfl : pm_ent 307 = some (4, 5, 12, 4, pmc_307)) rfl rfl (cm_307_141 (pw_dp hd (by decide)) h20I ((1728 * mk) + 864) (by omega) (by omega) (z) (by omega) (by omega)) ?_
          rintro h23 v24 ⟨h23I, h23E, rfl⟩
          refine ⟨_, rfl, ?_⟩
          have h23F := h20F.tr (h23E.wk (W' := [125, 138, 139, 140, 141, 142, 143, 166, 167, 168, 1041]) (by first | rfl | simp))
          show pw X d h23 306 134 [some (.ref 141), some (pw_i mk), some (pw_i z), some (pw_i (1728 * mk))] [] _
          refine pw_ld E (pc' := 135) (st' := [.ref 141]) rfl (fun _ => rfl) ?_
          refine pw_ld E (pc' := 136) (st' := [pw_i (1728 * mk), .ref 141]) rfl (fun _ => rfl) ?_
          refine pw_sip E (pc' := 139) rfl rfl (by decide) ?_
          refine pw_add E (pc' := 140) rfl rfl ?_
          refine pw_ld E (pc' := 141) (st' := [.ref 141, pw_i ((1728 * mk) + 1152), .ref 141]) rfl (fun _ => rfl) ?_
          refine pw_getR (b := 158) h23I E (c := 125) (k := 22) (pc' := 144) rfl rfl rfl rfl rfl rfl rfl ?_
          refine pw_ld E (pc' := 145) (st' := [pw_i z, .ref 158, pw_i ((1728 * mk) + 1152), .ref 141]) rfl (fun _ => rfl) ?_
          obtain ⟨f25l, f25h, -⟩ := pw_obj (c := 125) h23I rfl
          refine pw_call (m' := 307) (As := [.ref 141, pw_i ((1728 * mk) + 1152), .ref 158, pw_i z]) (rest := []) (ls'' := [some (.ref 141), some (pw_i ((1728 * mk) + 1152)), some (.ref 158), some (pw_i z), none]) (Nat.le_trans (by decide) hd) E rfl (fun _ => pw_iV rfl rfl rfl rfl (pw_cellI f25h rfl)) (rfl : pm_ent 307 = some (4, 5, 12, 4, pmc_307)) rfl rfl (cm_307_142 (pw_dp hd (by decide)) h23I ((1728 * mk) + 1152) (by omega) (by omega) (z) (by omega) (by omega)) ?_
          rintro h26 v27 ⟨h26I, h26E, rfl⟩
          refine ⟨_, rfl, ?_⟩
          have h26F := h23F.tr (h26E.wk (W' := [125, 138, 139, 140, 141, 142, 143, 166, 167, 168, 1041]) (by first | rfl | simp))
          show pw X d h26 306 148 [some (.ref 141), some (pw_i mk), some (pw_i z), some (pw_i (1728 * mk))] [] _
          refine pw_ld E (pc' := 149) (st' := [.ref 141]) rfl (fun _ => rfl) ?_
          refine pw_ld E (pc' := 150) (st' := [pw_i (1728 * mk), .ref 141]) rfl (fun _ => rfl) ?_
          refine pw_sip E (pc' := 153) rfl rfl (by decide) ?_
          refine pw_add E (pc' := 154) rfl rfl ?_
          refine pw_ld E (pc' := 155) (st' := [.ref 141, pw_i ((1728 * mk) + 1440), .ref 141]) rfl (fun _ => rfl) ?_
          refine pw_getR (b := 159) h26I E (c := 125) (k := 23) (pc' := 158) rfl rfl rfl rfl rfl rfl rfl ?_
          refine pw_ld E (pc' := 159) (st' := [pw_i z, .ref 159, pw_i ((1728 * mk) + 1440), .ref 141]) rfl (fun _ => rfl) ?_
          obtain ⟨f28l, f28h, -⟩ := pw_obj (c := 125) h26I rfl
          refine pw_call (m' := 307) (As := [.ref 141, pw_i ((1728 * mk) + 1440), .ref 159, pw_i z]) (rest := []) (ls'' := [some (.ref 141), some (pw_i ((1728 * mk) + 1440)), some (.ref 159), some (pw_i z), none]) (Nat.le_trans (by decide) hd) E rfl (fun _ => pw_iV rfl rfl rfl rfl (pw_cellI f28h rfl)) (rfl : pm_ent 307 = some (4, 5, 12, 4, pmc_307)) rfl rfl (cm_307_143 (pw_dp hd (by decide)) h26I ((1728 * mk) + 1440) (by omega) (by omega) (z) (by omega) (by omega)) ?_
          rintro h29 v30 ⟨h29I, h29E, rfl⟩
          refine ⟨_, rfl, ?_⟩
          have h29F := h26F.tr (h29E.wk (W' := [125, 138, 139, 140, 141, 142, 143, 166, 167, 168, 1041]) (by first | rfl | simp))
          show pw X d h29 306 162 [some (.ref 141), some (pw_i mk), some (pw_i z), some (pw_i (1728 * mk))] [] _
          refine pw_ld E (pc' := 163) (st' := [pw_i 1]) rfl (fun _ => rfl) ?_
          refine pw_zret E rfl (by omega) ?_
          exact ⟨h29I, h29F, ⟨_, rfl, by omega, by omega⟩⟩
        · intro hc31
          change ¬ (z = (0 : Int)) at hc31
          exfalso; omega
      · intro hc32
        change ¬ (z = (0 : Int)) at hc32
        refine pw_ld E (pc' := 19) (st' := [.ref 141]) rfl (fun _ => rfl) ?_
        refine pw_getR (b := 182) h1I E (c := 125) (k := 55) (pc' := 22) rfl rfl rfl rfl rfl rfl rfl ?_
        refine pw_ld E (pc' := 23) (st' := [pw_i mk, .ref 182]) rfl (fun _ => rfl) ?_
        refine pw_ald2 h1I E (c := 166) (pc' := 24) rfl rfl rfl (by decide) rfl (by decide) (by omega) (by omega) rfl (fun hf33a hf33b => ?_)
        refine pw_if E (pc' := 40) rfl (by decide) (by omega) (by omega) ?_ ?_
        · intro hc34
          change pw_g h1 166 (mk.toNat) = (0 : Int) at hc34
          refine pw_ld E (pc' := 41) (st' := [pw_i 0]) rfl (fun _ => rfl) ?_
          refine pw_zret E rfl (by omega) ?_
          exact ⟨h1I, h1F, ⟨_, rfl, by omega, by omega⟩⟩
        · intro hc35
          change ¬ (pw_g h1 166 (mk.toNat) = (0 : Int)) at hc35
          refine pw_ld E (pc' := 28) (st' := [.ref 141]) rfl (fun _ => rfl) ?_
          refine pw_getI2 h1I E (c := 125) (k := 41) (pc' := 31) rfl rfl rfl rfl rfl rfl (fun hf36a hf36b => ?_)
          refine pw_ld E (pc' := 32) (st' := [.ref 141, pw_i (pw_g h1 125 41)]) rfl (fun _ => rfl) ?_
          refine pw_getR (b := 183) h1I E (c := 125) (k := 56) (pc' := 35) rfl rfl rfl rfl rfl rfl rfl ?_
          refine pw_ld E (pc' := 36) (st' := [pw_i mk, .ref 183, pw_i (pw_g h1 125 41)]) rfl (fun _ => rfl) ?_
          refine pw_ald2 h1I E (c := 167) (pc' := 37) rfl rfl rfl (by decide) rfl (by decide) (by omega) (by omega) rfl (fun hf37a hf37b => ?_)
          refine pw_if2 E (pc' := 42) rfl (by decide) (by omega) (by omega) (by omega) (by omega) ?_ ?_
          · intro hc38
            change pw_g h1 167 (mk.toNat) ≤ pw_g h1 125 41 at hc38
            refine pw_ld E (pc' := 43) (st' := [pw_i z]) rfl (fun _ => rfl) ?_
            refine pw_if E (pc' := 59) rfl (by decide) (by omega) (by omega) ?_ ?_
            · intro hc39
              change z = (0 : Int) at hc39
              exfalso; omega
            · intro hc40
              change ¬ (z = (0 : Int)) at hc40
              refine pw_ld E (pc' := 47) (st' := [.ref 141]) rfl (fun _ => rfl) ?_
              refine pw_ld E (pc' := 48) (st' := [.ref 141, .ref 141]) rfl (fun _ => rfl) ?_
              refine pw_getR (b := 183) h1I E (c := 125) (k := 56) (pc' := 51) rfl rfl rfl rfl rfl rfl rfl ?_
              refine pw_ld E (pc' := 52) (st' := [pw_i mk, .ref 183, .ref 141]) rfl (fun _ => rfl) ?_
              refine pw_ald2 h1I E (c := 167) (pc' := 53) rfl rfl rfl (by decide) rfl (by decide) (by omega) (by omega) rfl (fun hf41a hf41b => ?_)
              refine pw_putP h1I E (k := 41) (pc' := 56) rfl rfl rfl rfl (by omega) (by omega) (by omega) (by omega) rfl rfl ?_
              intro h42I h42E
              generalize h42w : pw_w h1 125 41 (pw_i (pw_g h1 167 (mk.toNat))) = h42 at h42I h42E ⊢
              have h42F := h1F.tr (h42E.wk (W' := [125, 138, 139, 140, 141, 142, 143, 166, 167, 168, 1041]) (by first | rfl | simp))
              refine pw_goto E (pc' := 76) rfl (by decide) ?_
              refine pw_sip E (pc' := 79) rfl rfl (by decide) ?_
              refine pw_ld E (pc' := 80) (st' := [pw_i mk, pw_i 1728]) rfl (fun _ => rfl) ?_
              refine pw_mul E (pc' := 81) rfl rfl ?_
              refine pw_istn E (pc' := 82) (ls' := [some (.ref 141), some (pw_i mk), some (pw_i z), some (pw_i (1728 * mk))]) rfl rfl rfl rfl ?_
              refine pw_ld E (pc' := 83) (st' := [.ref 141]) rfl (fun _ => rfl) ?_
              refine pw_ld E (pc' := 84) (st' := [pw_i (1728 * mk), .ref 141]) rfl (fun _ => rfl) ?_
              refine pw_ld E (pc' := 85) (st' := [.ref 141, pw_i (1728 * mk), .ref 141]) rfl (fun _ => rfl) ?_
              refine pw_getR (b := 154) h42I E (c := 125) (k := 18) (pc' := 88) rfl rfl rfl rfl rfl rfl rfl ?_
              refine pw_ld E (pc' := 89) (st' := [pw_i z, .ref 154, pw_i (1728 * mk), .ref 141]) rfl (fun _ => rfl) ?_
              obtain ⟨f43l, f43h, -⟩ := pw_obj (c := 125) h42I rfl
              refine pw_call (m' := 307) (As := [.ref 141, pw_i (1728 * mk), .ref 154, pw_i z]) (rest := []) (ls'' := [some (.ref 141), some (pw_i (1728 * mk)), some (.ref 154), some (pw_i z), none]) (Nat.le_trans (by decide) hd) E rfl (fun _ => pw_iV rfl rfl rfl rfl (pw_cellI f43h rfl)) (rfl : pm_ent 307 = some (4, 5, 12, 4, pmc_307)) rfl rfl (cm_307_138 (pw_dp hd (by decide)) h42I (1728 * mk) (by omega) (by omega) (z) (by omega) (by omega)) ?_
              rintro h44 v45 ⟨h44I, h44E, rfl⟩
              refine ⟨_, rfl, ?_⟩
              have h44F := h42F.tr (h44E.wk (W' := [125, 138, 139, 140, 141, 142, 143, 166, 167, 168, 1041]) (by first | rfl | simp))
              show pw X d h44 306 92 [some (.ref 141), some (pw_i mk), some (pw_i z), some (pw_i (1728 * mk))] [] _
              refine pw_ld E (pc' := 93) (st' := [.ref 141]) rfl (fun _ => rfl) ?_
              refine pw_ld E (pc' := 94) (st' := [pw_i (1728 * mk), .ref 141]) rfl (fun _ => rfl) ?_
              refine pw_sip E (pc' := 97) rfl rfl (by decide) ?_
              refine pw_add E (pc' := 98) rfl rfl ?_
              refine pw_ld E (pc' := 99) (st' := [.ref 141, pw_i ((1728 * mk) + 288), .ref 141]) rfl (fun _ => rfl) ?_
              refine pw_getR (b := 155) h44I E (c := 125) (k := 19) (pc' := 102) rfl rfl rfl rfl rfl rfl rfl ?_
              refine pw_ld E (pc' := 103) (st' := [pw_i z, .ref 155, pw_i ((1728 * mk) + 288), .ref 141]) rfl (fun _ => rfl) ?_
              obtain ⟨f46l, f46h, -⟩ := pw_obj (c := 125) h44I rfl
              refine pw_call (m' := 307) (As := [.ref 141, pw_i ((1728 * mk) + 288), .ref 155, pw_i z]) (rest := []) (ls'' := [some (.ref 141), some (pw_i ((1728 * mk) + 288)), some (.ref 155), some (pw_i z), none]) (Nat.le_trans (by decide) hd) E rfl (fun _ => pw_iV rfl rfl rfl rfl (pw_cellI f46h rfl)) (rfl : pm_ent 307 = some (4, 5, 12, 4, pmc_307)) rfl rfl (cm_307_139 (pw_dp hd (by decide)) h44I ((1728 * mk) + 288) (by omega) (by omega) (z) (by omega) (by omega)) ?_
              rintro h47 v48 ⟨h47I, h47E, rfl⟩
              refine ⟨_, rfl, ?_⟩
              have h47F := h44F.tr (h47E.wk (W' := [125, 138, 139, 140, 141, 142, 143, 166, 167, 168, 1041]) (by first | rfl | simp))
              show pw X d h47 306 106 [some (.ref 141), some (pw_i mk), some (pw_i z), some (pw_i (1728 * mk))] [] _
              refine pw_ld E (pc' := 107) (st' := [.ref 141]) rfl (fun _ => rfl) ?_
              refine pw_ld E (pc' := 108) (st' := [pw_i (1728 * mk), .ref 141]) rfl (fun _ => rfl) ?_
              refine pw_sip E (pc' := 111) rfl rfl (by decide) ?_
              refine pw_add E (pc' := 112) rfl rfl ?_
              refine pw_ld E (pc' := 113) (st' := [.ref 141, pw_i ((1728 * mk) + 576), .ref 141]) rfl (fun _ => rfl) ?_
              refine pw_getR (b := 156) h47I E (c := 125) (k := 20) (pc' := 116) rfl rfl rfl rfl rfl rfl rfl ?_
              refine pw_ld E (pc' := 117) (st' := [pw_i z, .ref 156, pw_i ((1728 * mk) + 576), .ref 141]) rfl (fun _ => rfl) ?_
              obtain ⟨f49l, f49h, -⟩ := pw_obj (c := 125) h47I rfl
              refine pw_call (m' := 307) (As := [.ref 141, pw_i ((1728 * mk) + 576), .ref 156, pw_i z]) (rest := []) (ls'' := [some (.ref 141), some (pw_i ((1728 * mk) + 576)), some (.ref 156), some (pw_i z), none]) (Nat.le_trans (by decide) hd) E rfl (fun _ => pw_iV rfl rfl rfl rfl (pw_cellI f49h rfl)) (rfl : pm_ent 307 = some (4, 5, 12, 4, pmc_307)) rfl rfl (cm_307_140 (pw_dp hd (by decide)) h47I ((1728 * mk) + 576) (by omega) (by omega) (z) (by omega) (by omega)) ?_
              rintro h50 v51 ⟨h50I, h50E, rfl⟩
              refine ⟨_, rfl, ?_⟩
              have h50F := h47F.tr (h50E.wk (W' := [125, 138, 139, 140, 141, 142, 143, 166, 167, 168, 1041]) (by first | rfl | simp))
              show pw X d h50 306 120 [some (.ref 141), some (pw_i mk), some (pw_i z), some (pw_i (1728 * mk))] [] _
              refine pw_ld E (pc' := 121) (st' := [.ref 141]) rfl (fun _ => rfl) ?_
              refine pw_ld E (pc' := 122) (st' := [pw_i (1728 * mk), .ref 141]) rfl (fun _ => rfl) ?_
              refine pw_sip E (pc' := 125) rfl rfl (by decide) ?_
              refine pw_add E (pc' := 126) rfl rfl ?_
              refine pw_ld E (pc' := 127) (st' := [.ref 141, pw_i ((1728 * mk) + 864), .ref 141]) rfl (fun _ => rfl) ?_
              refine pw_getR (b := 157) h50I E (c := 125) (k := 21) (pc' := 130) rfl rfl rfl rfl rfl rfl rfl ?_
              refine pw_ld E (pc' := 131) (st' := [pw_i z, .ref 157, pw_i ((1728 * mk) + 864), .ref 141]) rfl (fun _ => rfl) ?_
              obtain ⟨f52l, f52h, -⟩ := pw_obj (c := 125) h50I rfl
              refine pw_call (m' := 307) (As := [.ref 141, pw_i ((1728 * mk) + 864), .ref 157, pw_i z]) (rest := []) (ls'' := [some (.ref 141), some (pw_i ((1728 * mk) + 864)), some (.ref 157), some (pw_i z), none]) (Nat.le_trans (by decide) hd) E rfl (fun _ => pw_iV rfl rfl rfl rfl (pw_cellI f52h rfl)) (rfl : pm_ent 307 = some (4, 5, 12, 4, pmc_307)) rfl rfl (cm_307_141 (pw_dp hd (by decide)) h50I ((1728 * mk) + 864) (by omega) (by omega) (z) (by omega) (by omega)) ?_
              rintro h53 v54 ⟨h53I, h53E, rfl⟩
              refine ⟨_, rfl, ?_⟩
              have h53F := h50F.tr (h53E.wk (W' := [125, 138, 139, 140, 141, 142, 143, 166, 167, 168, 1041]) (by first | rfl | simp))
              show pw X d h53 306 134 [some (.ref 141), some (pw_i mk), some (pw_i z), some (pw_i (1728 * mk))] [] _
              refine pw_ld E (pc' := 135) (st' := [.ref 141]) rfl (fun _ => rfl) ?_
              refine pw_ld E (pc' := 136) (st' := [pw_i (1728 * mk), .ref 141]) rfl (fun _ => rfl) ?_
              refine pw_sip E (pc' := 139) rfl rfl (by decide) ?_
              refine pw_add E (pc' := 140) rfl rfl ?_
              refine pw_ld E (pc' := 141) (st' := [.ref 141, pw_i ((1728 * mk) + 1152), .ref 141]) rfl (fun _ => rfl) ?_
              refine pw_getR (b := 158) h53I E (c := 125) (k := 22) (pc' := 144) rfl rfl rfl rfl rfl rfl rfl ?_
              refine pw_ld E (pc' := 145) (st' := [pw_i z, .ref 158, pw_i ((1728 * mk) + 1152), .ref 141]) rfl (fun _ => rfl) ?_
              obtain ⟨f55l, f55h, -⟩ := pw_obj (c := 125) h53I rfl
              refine pw_call (m' := 307) (As := [.ref 141, pw_i ((1728 * mk) + 1152), .ref 158, pw_i z]) (rest := []) (ls'' := [some (.ref 141), some (pw_i ((1728 * mk) + 1152)), some (.ref 158), some (pw_i z), none]) (Nat.le_trans (by decide) hd) E rfl (fun _ => pw_iV rfl rfl rfl rfl (pw_cellI f55h rfl)) (rfl : pm_ent 307 = some (4, 5, 12, 4, pmc_307)) rfl rfl (cm_307_142 (pw_dp hd (by decide)) h53I ((1728 * mk) + 1152) (by omega) (by omega) (z) (by omega) (by omega)) ?_
              rintro h56 v57 ⟨h56I, h56E, rfl⟩
              refine ⟨_, rfl, ?_⟩
              have h56F := h53F.tr (h56E.wk (W' := [125, 138, 139, 140, 141, 142, 143, 166, 167, 168, 1041]) (by first | rfl | simp))
              show pw X d h56 306 148 [some (.ref 141), some (pw_i mk), some (pw_i z), some (pw_i (1728 * mk))] [] _
              refine pw_ld E (pc' := 149) (st' := [.ref 141]) rfl (fun _ => rfl) ?_
              refine pw_ld E (pc' := 150) (st' := [pw_i (1728 * mk), .ref 141]) rfl (fun _ => rfl) ?_
              refine pw_sip E (pc' := 153) rfl rfl (by decide) ?_
              refine pw_add E (pc' := 154) rfl rfl ?_
              refine pw_ld E (pc' := 155) (st' := [.ref 141, pw_i ((1728 * mk) + 1440), .ref 141]) rfl (fun _ => rfl) ?_
              refine pw_getR (b := 159) h56I E (c := 125) (k := 23) (pc' := 158) rfl rfl rfl rfl rfl rfl rfl ?_
              refine pw_ld E (pc' := 159) (st' := [pw_i z, .ref 159, pw_i ((1728 * mk) + 1440), .ref 141]) rfl (fun _ => rfl) ?_
              obtain ⟨f58l, f58h, -⟩ := pw_obj (c := 125) h56I rfl
              refine pw_call (m' := 307) (As := [.ref 141, pw_i ((1728 * mk) + 1440), .ref 159, pw_i z]) (rest := []) (ls'' := [some (.ref 141), some (pw_i ((1728 * mk) + 1440)), some (.ref 159), some (pw_i z), none]) (Nat.le_trans (by decide) hd) E rfl (fun _ => pw_iV rfl rfl rfl rfl (pw_cellI f58h rfl)) (rfl : pm_ent 307 = some (4, 5, 12, 4, pmc_307)) rfl rfl (cm_307_143 (pw_dp hd (by decide)) h56I ((1728 * mk) + 1440) (by omega) (by omega) (z) (by omega) (by omega)) ?_
              rintro h59 v60 ⟨h59I, h59E, rfl⟩
              refine ⟨_, rfl, ?_⟩
              have h59F := h56F.tr (h59E.wk (W' := [125, 138, 139, 140, 141, 142, 143, 166, 167, 168, 1041]) (by first | rfl | simp))
              show pw X d h59 306 162 [some (.ref 141), some (pw_i mk), some (pw_i z), some (pw_i (1728 * mk))] [] _
              refine pw_ld E (pc' := 163) (st' := [pw_i 1]) rfl (fun _ => rfl) ?_
              refine pw_zret E rfl (by omega) ?_
              exact ⟨h59I, h59F, ⟨_, rfl, by omega, by omega⟩⟩
          · intro hc61
            change ¬ (pw_g h1 167 (mk.toNat) ≤ pw_g h1 125 41) at hc61
            refine pw_ld E (pc' := 41) (st' := [pw_i 0]) rfl (fun _ => rfl) ?_
            refine pw_zret E rfl (by omega) ?_
            exact ⟨h1I, h1F, ⟨_, rfl, by omega, by omega⟩⟩
  · skip
    refine pw_if E (pc' := 40) rfl (by decide) (by omega) (by omega) ?_ ?_
    · intro hc63
      change x4 = (0 : Int) at hc63
      refine pw_ld E (pc' := 41) (st' := [pw_i 0]) rfl (fun _ => rfl) ?_
      refine pw_zret E rfl (by omega) ?_
      exact ⟨h1I, h1F, ⟨_, rfl, by omega, by omega⟩⟩
    · intro hc64
      change ¬ (x4 = (0 : Int)) at hc64
      exfalso; omega
set_option maxHeartbeats 4000000 in
theorem cm_308 {X : List (Nat × List Value)} {d : Nat} {h : pm_H} (hd : 1 ≤ d) (I : pw_I h) (wt : Int) (hwt1 : (-2147483648) ≤ wt) (hwt2 : wt ≤ 2147483647) : pw X d h 308 0 [some (.ref 141), some (pw_i wt), none, none] [] (fun h' v => pw_I h' ∧ pw_E [125] h h' ∧ ∃ a : Int, v = .inl (some (pw_i a)) ∧ (-2147483648) ≤ a ∧ a ≤ 2147483647) := by
  have E : pm_ent 308 = some (2, 4, 12, 0, pmc_308) := rfl
  have E0 : pw_E [125] h h := pw_E.rf _ _
  refine pw_ld E (pc' := 1) (st' := [.ref 141]) rfl (fun _ => rfl) ?_
  refine pw_ld E (pc' := 2) (st' := [pw_i 0, .ref 141]) rfl (fun _ => rfl) ?_
  refine pw_putI I E (c := 125) (k := 0) (pc' := 5) rfl rfl rfl rfl (by omega) (by omega) (by omega) (by omega) rfl rfl ?_
  intro h1I h1E
  generalize h1w : pw_w h 125 0 (pw_i 0) = h1 at h1I h1E ⊢
  have h1F := E0.tr (h1E.wk (W' := [125]) (by first | rfl | simp))
  refine pw_ld E (pc' := 6) (st' := [pw_i 0]) rfl (fun _ => rfl) ?_
  refine pw_istn E (pc' := 7) (ls' := [some (.ref 141), some (pw_i wt), some (pw_i 0), none]) rfl rfl rfl rfl ?_
  refine pw_ld E (pc' := 8) (st' := [pw_i wt]) rfl (fun _ => rfl) ?_
  rcases (by omega : wt = 0 ∨ wt = 1 ∨ wt = 2 ∨ wt = 3 ∨ wt = 4 ∨ wt = 5 ∨ wt = 6 ∨ wt = 7 ∨ (wt < 0 ∨ 7 < wt)) with hs2 | hs2 | hs2 | hs2 | hs2 | hs2 | hs2 | hs2 | hs2
  · refine pw_tswJ (o := 48) E (pc' := 56) rfl (by omega) (by omega) (by omega) (by rw [hs2]; rfl) (by decide) ?_
    refine pw_ld E (pc' := 57) (st' := [pw_i 0]) rfl (fun _ => rfl) ?_
    refine pw_istn E (pc' := 58) (ls' := [some (.ref 141), some (pw_i wt), some (pw_i 0), some (pw_i 0)]) rfl rfl rfl rfl ?_
    have L58 : ∀ (n58 : Nat) (k58_2 : Int) (k58_3 : Int), (-2147483648) ≤ k58_2 → k58_2 ≤ 2147483647 → 0 ≤ k58_3 → k58_3 ≤ 24 → (24 - k58_3).toNat = n58 → pw X d h1 308 58 [some (.ref 141), some (pw_i wt), some (pw_i k58_2), some (pw_i k58_3)] [] (fun h' v => pw_I h' ∧ pw_E [125] h h' ∧ ∃ a : Int, v = .inl (some (pw_i a)) ∧ (-2147483648) ≤ a ∧ a ≤ 2147483647) := by
      intro n58
      induction n58 using Nat.strongRecOn with
      | ind n58 ih58 =>
        intro k58_2 k58_3 k58_2a k58_2b k58_3a k58_3b hm58
        refine pw_ld E (pc' := 59) (st' := [pw_i k58_3]) rfl (fun _ => rfl) ?_
        refine pw_bip E (pc' := 61) rfl rfl (by decide) ?_
        refine pw_if2 E (pc' := 100) rfl (by decide) (by omega) (by omega) (by decide) (by decide) ?_ ?_
        · intro hc3
          change (24 : Int) ≤ k58_3 at hc3
          refine pw_ld E (pc' := 101) (st' := [pw_i k58_2]) rfl (fun _ => rfl) ?_
          refine pw_iret E rfl ?_
          exact ⟨h1I, h1F, ⟨_, rfl, by omega, by omega⟩⟩
        · intro hc4
          change ¬ ((24 : Int) ≤ k58_3) at hc4
          refine pw_ld E (pc' := 65) (st' := [pw_i k58_2]) rfl (fun _ => rfl) ?_
          refine pw_ld E (pc' := 66) (st' := [.ref 141, pw_i k58_2]) rfl (fun _ => rfl) ?_
          refine pw_getR (b := 147) h1I E (c := 125) (k := 10) (pc' := 69) rfl rfl rfl rfl rfl rfl rfl ?_
          refine pw_ld E (pc' := 70) (st' := [pw_i k58_3, .ref 147, pw_i k58_2]) rfl (fun _ => rfl) ?_
          refine pw_ald2 h1I E (c := 131) (pc' := 71) rfl rfl rfl (by decide) rfl (by decide) (by omega) (by omega) rfl (fun hf5a hf5b => ?_)
          refine pw_if E (pc' := 91) rfl (by decide) (by omega) (by omega) ?_ ?_
          · intro hc6
            change pw_g h1 131 (k58_3.toNat) = (0 : Int) at hc6
            refine pw_ld E (pc' := 92) (st' := [pw_i 0, pw_i k58_2]) rfl (fun _ => rfl) ?_
            refine pw_add E (pc' := 93) rfl rfl ?_
            refine pw_istn E (pc' := 94) (ls' := [some (.ref 141), some (pw_i wt), some (pw_i (k58_2 + 0)), some (pw_i k58_3)]) rfl rfl rfl rfl ?_
            refine pw_inc E (pc' := 97) (ls' := [some (.ref 141), some (pw_i wt), some (pw_i (k58_2 + 0)), some (pw_i (k58_3 + 1))]) rfl rfl rfl rfl ?_
            refine pw_goto E (pc' := 58) rfl (by decide) ?_
            exact ih58 _ (by omega) (k58_2 + 0) (k58_3 + 1)  (by omega) (by omega) (by omega) (by omega)  rfl
          · intro hc7
            change ¬ (pw_g h1 131 (k58_3.toNat) = (0 : Int)) at hc7
            refine pw_ld E (pc' := 75) (st' := [pw_i wt, pw_i k58_2]) rfl (fun _ => rfl) ?_
            refine pw_if E (pc' := 87) rfl (by decide) (by omega) (by omega) ?_ ?_
            · intro hc8
              change wt = (0 : Int) at hc8
              refine pw_ld E (pc' := 88) (st' := [pw_i 1, pw_i k58_2]) rfl (fun _ => rfl) ?_
              refine pw_goto E (pc' := 92) rfl (by decide) ?_
              refine pw_add E (pc' := 93) rfl rfl ?_
              refine pw_nm (fun x9 hx9a hx9b => ?_)
              refine pw_istn E (pc' := 94) (ls' := [some (.ref 141), some (pw_i wt), some (pw_i x9), some (pw_i k58_3)]) rfl rfl rfl rfl ?_
              refine pw_inc E (pc' := 97) (ls' := [some (.ref 141), some (pw_i wt), some (pw_i x9), some (pw_i (k58_3 + 1))]) rfl rfl rfl rfl ?_
              refine pw_goto E (pc' := 58) rfl (by decide) ?_
              exact ih58 _ (by omega) (x9) (k58_3 + 1)  (by omega) (by omega) (by omega) (by omega)  rfl
            · intro hc10
              change ¬ (wt = (0 : Int)) at hc10
              exfalso; omega
    exact L58 _ (0) (0)  (by omega) (by omega) (by omega) (by omega)  rfl
  · refine pw_tswJ (o := 94) E (pc' := 102) rfl (by omega) (by omega) (by omega) (by rw [hs2]; rfl) (by decide) ?_
    refine pw_ld E (pc' := 103) (st' := [pw_i 0]) rfl (fun _ => rfl) ?_
    refine pw_istn E (pc' := 104) (ls' := [some (.ref 141), some (pw_i wt), some (pw_i 0), some (pw_i 0)]) rfl rfl rfl rfl ?_
    have L104 : ∀ (n104 : Nat) (k104_2 : Int) (k104_3 : Int), (-2147483648) ≤ k104_2 → k104_2 ≤ 2147483647 → 0 ≤ k104_3 → k104_3 ≤ 288 → (288 - k104_3).toNat = n104 → pw X d h1 308 104 [some (.ref 141), some (pw_i wt), some (pw_i k104_2), some (pw_i k104_3)] [] (fun h' v => pw_I h' ∧ pw_E [125] h h' ∧ ∃ a : Int, v = .inl (some (pw_i a)) ∧ (-2147483648) ≤ a ∧ a ≤ 2147483647) := by
      intro n104
      induction n104 using Nat.strongRecOn with
      | ind n104 ih104 =>
        intro k104_2 k104_3 k104_2a k104_2b k104_3a k104_3b hm104
        refine pw_ld E (pc' := 105) (st' := [pw_i k104_3]) rfl (fun _ => rfl) ?_
        refine pw_sip E (pc' := 108) rfl rfl (by decide) ?_
        refine pw_if2 E (pc' := 148) rfl (by decide) (by omega) (by omega) (by decide) (by decide) ?_ ?_
        · intro hc11
          change (288 : Int) ≤ k104_3 at hc11
          refine pw_ld E (pc' := 149) (st' := [pw_i k104_2]) rfl (fun _ => rfl) ?_
          refine pw_iret E rfl ?_
          exact ⟨h1I, h1F, ⟨_, rfl, by omega, by omega⟩⟩
        · intro hc12
          change ¬ ((288 : Int) ≤ k104_3) at hc12
          refine pw_ld E (pc' := 112) (st' := [pw_i k104_2]) rfl (fun _ => rfl) ?_
          refine pw_ld E (pc' := 113) (st' := [pw_i wt, pw_i k104_2]) rfl (fun _ => rfl) ?_
          refine pw_ld E (pc' := 114) (st' := [pw_i 1, pw_i wt, pw_i k104_2]) rfl (fun _ => rfl) ?_
          refine pw_if2 E (pc' := 134) rfl (by decide) (by omega) (by omega) (by decide) (by decide) ?_ ?_
          · intro hc13
            change wt ≠ (1 : Int) at hc13
            exfalso; omega
          · intro hc14
            change ¬ (wt ≠ (1 : Int)) at hc14
            refine pw_ld E (pc' := 118) (st' := [.ref 141, pw_i k104_2]) rfl (fun _ => rfl) ?_
            refine pw_getR (b := 154) h1I E (c := 125) (k := 18) (pc' := 121) rfl rfl rfl rfl rfl rfl rfl ?_
            refine pw_ld E (pc' := 122) (st' := [pw_i k104_3, .ref 154, pw_i k104_2]) rfl (fun _ => rfl) ?_
            refine pw_ald2 h1I E (c := 138) (pc' := 123) rfl rfl rfl (by decide) rfl (by decide) (by omega) (by omega) rfl (fun hf15a hf15b => ?_)
            refine pw_if E (pc' := 130) rfl (by decide) (by omega) (by omega) ?_ ?_
            · intro hc16
              change pw_g h1 138 (k104_3.toNat) = (0 : Int) at hc16
              refine pw_ld E (pc' := 131) (st' := [pw_i 0, pw_i k104_2]) rfl (fun _ => rfl) ?_
              refine pw_goto E (pc' := 140) rfl (by decide) ?_
              refine pw_add E (pc' := 141) rfl rfl ?_
              refine pw_istn E (pc' := 142) (ls' := [some (.ref 141), some (pw_i wt), some (pw_i (k104_2 + 0)), some (pw_i k104_3)]) rfl rfl rfl rfl ?_
              refine pw_inc E (pc' := 145) (ls' := [some (.ref 141), some (pw_i wt), some (pw_i (k104_2 + 0)), some (pw_i (k104_3 + 1))]) rfl rfl rfl rfl ?_
              refine pw_goto E (pc' := 104) rfl (by decide) ?_
              exact ih104 _ (by omega) (k104_2 + 0) (k104_3 + 1)  (by omega) (by omega) (by omega) (by omega)  rfl
            · intro hc17
              change ¬ (pw_g h1 138 (k104_3.toNat) = (0 : Int)) at hc17
              refine pw_ld E (pc' := 127) (st' := [pw_i 1, pw_i k104_2]) rfl (fun _ => rfl) ?_
              refine pw_goto E (pc' := 140) rfl (by decide) ?_
              refine pw_add E (pc' := 141) rfl rfl ?_
              refine pw_nm (fun x18 hx18a hx18b => ?_)
              refine pw_istn E (pc' := 142) (ls' := [some (.ref 141), some (pw_i wt), some (pw_i x18), some (pw_i k104_3)]) rfl rfl rfl rfl ?_
              refine pw_inc E (pc' := 145) (ls' := [some (.ref 141), some (pw_i wt), some (pw_i x18), some (pw_i (k104_3 + 1))]) rfl rfl rfl rfl ?_
              refine pw_goto E (pc' := 104) rfl (by decide) ?_
              exact ih104 _ (by omega) (x18) (k104_3 + 1)  (by omega) (by omega) (by omega) (by omega)  rfl
    exact L104 _ (0) (0)  (by omega) (by omega) (by omega) (by omega)  rfl
  · refine pw_tswJ (o := 94) E (pc' := 102) rfl (by omega) (by omega) (by omega) (by rw [hs2]; rfl) (by decide) ?_
    refine pw_ld E (pc' := 103) (st' := [pw_i 0]) rfl (fun _ => rfl) ?_
    refine pw_istn E (pc' := 104) (ls' := [some (.ref 141), some (pw_i wt), some (pw_i 0), some (pw_i 0)]) rfl rfl rfl rfl ?_
    have L104 : ∀ (n104 : Nat) (k104_2 : Int) (k104_3 : Int), (-2147483648) ≤ k104_2 → k104_2 ≤ 2147483647 → 0 ≤ k104_3 → k104_3 ≤ 288 → (288 - k104_3).toNat = n104 → pw X d h1 308 104 [some (.ref 141), some (pw_i wt), some (pw_i k104_2), some (pw_i k104_3)] [] (fun h' v => pw_I h' ∧ pw_E [125] h h' ∧ ∃ a : Int, v = .inl (some (pw_i a)) ∧ (-2147483648) ≤ a ∧ a ≤ 2147483647) := by
      intro n104
      induction n104 using Nat.strongRecOn with
      | ind n104 ih104 =>
        intro k104_2 k104_3 k104_2a k104_2b k104_3a k104_3b hm104
        refine pw_ld E (pc' := 105) (st' := [pw_i k104_3]) rfl (fun _ => rfl) ?_
        refine pw_sip E (pc' := 108) rfl rfl (by decide) ?_
        refine pw_if2 E (pc' := 148) rfl (by decide) (by omega) (by omega) (by decide) (by decide) ?_ ?_
        · intro hc19
          change (288 : Int) ≤ k104_3 at hc19
          refine pw_ld E (pc' := 149) (st' := [pw_i k104_2]) rfl (fun _ => rfl) ?_
          refine pw_iret E rfl ?_
          exact ⟨h1I, h1F, ⟨_, rfl, by omega, by omega⟩⟩
        · intro hc20
          change ¬ ((288 : Int) ≤ k104_3) at hc20
          refine pw_ld E (pc' := 112) (st' := [pw_i k104_2]) rfl (fun _ => rfl) ?_
          refine pw_ld E (pc' := 113) (st' := [pw_i wt, pw_i k104_2]) rfl (fun _ => rfl) ?_
          refine pw_ld E (pc' := 114) (st' := [pw_i 1, pw_i wt, pw_i k104_2]) rfl (fun _ => rfl) ?_
          refine pw_if2 E (pc' := 134) rfl (by decide) (by omega) (by omega) (by decide) (by decide) ?_ ?_
          · intro hc21
            change wt ≠ (1 : Int) at hc21
            refine pw_ld E (pc' := 135) (st' := [.ref 141, pw_i k104_2]) rfl (fun _ => rfl) ?_
            refine pw_getR (b := 157) h1I E (c := 125) (k := 21) (pc' := 138) rfl rfl rfl rfl rfl rfl rfl ?_
            refine pw_ld E (pc' := 139) (st' := [pw_i k104_3, .ref 157, pw_i k104_2]) rfl (fun _ => rfl) ?_
            refine pw_ald2 h1I E (c := 141) (pc' := 140) rfl rfl rfl (by decide) rfl (by decide) (by omega) (by omega) rfl (fun hf22a hf22b => ?_)
            refine pw_add E (pc' := 141) rfl rfl ?_
            refine pw_nm (fun x23 hx23a hx23b => ?_)
            refine pw_istn E (pc' := 142) (ls' := [some (.ref 141), some (pw_i wt), some (pw_i x23), some (pw_i k104_3)]) rfl rfl rfl rfl ?_
            refine pw_inc E (pc' := 145) (ls' := [some (.ref 141), some (pw_i wt), some (pw_i x23), some (pw_i (k104_3 + 1))]) rfl rfl rfl rfl ?_
            refine pw_goto E (pc' := 104) rfl (by decide) ?_
            exact ih104 _ (by omega) (x23) (k104_3 + 1)  (by omega) (by omega) (by omega) (by omega)  rfl
          · intro hc24
            change ¬ (wt ≠ (1 : Int)) at hc24
            exfalso; omega
    exact L104 _ (0) (0)  (by omega) (by omega) (by omega) (by omega)  rfl
  · refine pw_tswJ (o := 142) E (pc' := 150) rfl (by omega) (by omega) (by omega) (by rw [hs2]; rfl) (by decide) ?_
    refine pw_ld E (pc' := 151) (st' := [.ref 141]) rfl (fun _ => rfl) ?_
    refine pw_getI2 h1I E (c := 125) (k := 41) (pc' := 154) rfl rfl rfl rfl rfl rfl (fun hf25a hf25b => ?_)
    refine pw_iret E rfl ?_
    exact ⟨h1I, h1F, ⟨_, rfl, by omega, by omega⟩⟩
  · refine pw_tswJ (o := 147) E (pc' := 155) rfl (by omega) (by omega) (by omega) (by rw [hs2]; rfl) (by decide) ?_
    refine pw_ld E (pc' := 156) (st' := [pw_i 0]) rfl (fun _ => rfl) ?_
    refine pw_istn E (pc' := 157) (ls' := [some (.ref 141), some (pw_i wt), some (pw_i 0), some (pw_i 0)]) rfl rfl rfl rfl ?_
    have L157 : ∀ (n157 : Nat) (k157_2 : Int) (k157_3 : Int), (-2147483648) ≤ k157_2 → k157_2 ≤ 2147483647 → 0 ≤ k157_3 → k157_3 ≤ 20 → (20 - k157_3).toNat = n157 → pw X d h1 308 157 [some (.ref 141), some (pw_i wt), some (pw_i k157_2), some (pw_i k157_3)] [] (fun h' v => pw_I h' ∧ pw_E [125] h h' ∧ ∃ a : Int, v = .inl (some (pw_i a)) ∧ (-2147483648) ≤ a ∧ a ≤ 2147483647) := by
      intro n157
      induction n157 using Nat.strongRecOn with
      | ind n157 ih157 =>
        intro k157_2 k157_3 k157_2a k157_2b k157_3a k157_3b hm157
        refine pw_ld E (pc' := 158) (st' := [pw_i k157_3]) rfl (fun _ => rfl) ?_
        refine pw_ld E (pc' := 159) (st' := [.ref 141, pw_i k157_3]) rfl (fun _ => rfl) ?_
        refine pw_getI2 h1I E (c := 125) (k := 41) (pc' := 162) rfl rfl rfl rfl rfl rfl (fun hf26a hf26b => ?_)
        refine pw_if2 E (pc' := 188) rfl (by decide) (by omega) (by omega) (by omega) (by omega) ?_ ?_
        · intro hc27
          change pw_g h1 125 41 ≤ k157_3 at hc27
          refine pw_ld E (pc' := 189) (st' := [pw_i k157_2]) rfl (fun _ => rfl) ?_
          refine pw_iret E rfl ?_
          exact ⟨h1I, h1F, ⟨_, rfl, by omega, by omega⟩⟩
        · intro hc28
          change ¬ (pw_g h1 125 41 ≤ k157_3) at hc28
          refine pw_ld E (pc' := 166) (st' := [pw_i k157_2]) rfl (fun _ => rfl) ?_
          refine pw_ld E (pc' := 167) (st' := [.ref 141, pw_i k157_2]) rfl (fun _ => rfl) ?_
          refine pw_getR (b := 172) h1I E (c := 125) (k := 44) (pc' := 170) rfl rfl rfl rfl rfl rfl rfl ?_
          refine pw_ld E (pc' := 171) (st' := [pw_i k157_3, .ref 172, pw_i k157_2]) rfl (fun _ => rfl) ?_
          refine pw_ald2 h1I E (c := 156) (pc' := 172) rfl rfl rfl (by decide) rfl (by decide) (by omega) (by omega) rfl (fun hf29a hf29b => ?_)
          refine pw_if E (pc' := 179) rfl (by decide) (by omega) (by omega) ?_ ?_
          · intro hc30
            change pw_g h1 156 (k157_3.toNat) = (0 : Int) at hc30
            refine pw_ld E (pc' := 180) (st' := [pw_i 0, pw_i k157_2]) rfl (fun _ => rfl) ?_
            refine pw_add E (pc' := 181) rfl rfl ?_
            refine pw_istn E (pc' := 182) (ls' := [some (.ref 141), some (pw_i wt), some (pw_i (k157_2 + 0)), some (pw_i k157_3)]) rfl rfl rfl rfl ?_
            refine pw_inc E (pc' := 185) (ls' := [some (.ref 141), some (pw_i wt), some (pw_i (k157_2 + 0)), some (pw_i (k157_3 + 1))]) rfl rfl rfl rfl ?_
            refine pw_goto E (pc' := 157) rfl (by decide) ?_
            exact ih157 _ (by omega) (k157_2 + 0) (k157_3 + 1)  (by omega) (by omega) (by omega) (by omega)  rfl
          · intro hc31
            change ¬ (pw_g h1 156 (k157_3.toNat) = (0 : Int)) at hc31
            refine pw_ld E (pc' := 176) (st' := [pw_i 1, pw_i k157_2]) rfl (fun _ => rfl) ?_
            refine pw_goto E (pc' := 180) rfl (by decide) ?_
            refine pw_add E (pc' := 181) rfl rfl ?_
            refine pw_nm (fun x32 hx32a hx32b => ?_)
            refine pw_istn E (pc' := 182) (ls' := [some (.ref 141), some (pw_i wt), some (pw_i x32), some (pw_i k157_3)]) rfl rfl rfl rfl ?_
            refine pw_inc E (pc' := 185) (ls' := [some (.ref 141), some (pw_i wt), some (pw_i x32), some (pw_i (k157_3 + 1))]) rfl rfl rfl rfl ?_
            refine pw_goto E (pc' := 157) rfl (by decide) ?_
            exact ih157 _ (by omega) (x32) (k157_3 + 1)  (by omega) (by omega) (by omega) (by omega)  rfl
    exact L157 _ (0) (0)  (by omega) (by omega) (by omega) (by omega)  rfl
  · refine pw_tswJ (o := 182) E (pc' := 190) rfl (by omega) (by omega) (by omega) (by rw [hs2]; rfl) (by decide) ?_
    refine pw_ld E (pc' := 191) (st' := [.ref 141]) rfl (fun _ => rfl) ?_
    refine pw_getI2 h1I E (c := 125) (k := 15) (pc' := 194) rfl rfl rfl rfl rfl rfl (fun hf33a hf33b => ?_)
    refine pw_iret E rfl ?_
    exact ⟨h1I, h1F, ⟨_, rfl, by omega, by omega⟩⟩
  · refine pw_tswJ (o := 187) E (pc' := 195) rfl (by omega) (by omega) (by omega) (by rw [hs2]; rfl) (by decide) ?_
    refine pw_ld E (pc' := 196) (st' := [.ref 141]) rfl (fun _ => rfl) ?_
    refine pw_getI2 h1I E (c := 125) (k := 2) (pc' := 199) rfl rfl rfl rfl rfl rfl (fun hf34a hf34b => ?_)
    refine pw_iret E rfl ?_
    exact ⟨h1I, h1F, ⟨_, rfl, by omega, by omega⟩⟩
  · refine pw_tswJ (o := 48) E (pc' := 56) rfl (by omega) (by omega) (by omega) (by rw [hs2]; rfl) (by decide) ?_
    refine pw_ld E (pc' := 57) (st' := [pw_i 0]) rfl (fun _ => rfl) ?_
    refine pw_istn E (pc' := 58) (ls' := [some (.ref 141), some (pw_i wt), some (pw_i 0), some (pw_i 0)]) rfl rfl rfl rfl ?_
    have L58 : ∀ (n58 : Nat) (k58_2 : Int) (k58_3 : Int), (-2147483648) ≤ k58_2 → k58_2 ≤ 2147483647 → 0 ≤ k58_3 → k58_3 ≤ 24 → (24 - k58_3).toNat = n58 → pw X d h1 308 58 [some (.ref 141), some (pw_i wt), some (pw_i k58_2), some (pw_i k58_3)] [] (fun h' v => pw_I h' ∧ pw_E [125] h h' ∧ ∃ a : Int, v = .inl (some (pw_i a)) ∧ (-2147483648) ≤ a ∧ a ≤ 2147483647) := by
      intro n58
      induction n58 using Nat.strongRecOn with
      | ind n58 ih58 =>
        intro k58_2 k58_3 k58_2a k58_2b k58_3a k58_3b hm58
        refine pw_ld E (pc' := 59) (st' := [pw_i k58_3]) rfl (fun _ => rfl) ?_
        refine pw_bip E (pc' := 61) rfl rfl (by decide) ?_
        refine pw_if2 E (pc' := 100) rfl (by decide) (by omega) (by omega) (by decide) (by decide) ?_ ?_
        · intro hc35
          change (24 : Int) ≤ k58_3 at hc35
          refine pw_ld E (pc' := 101) (st' := [pw_i k58_2]) rfl (fun _ => rfl) ?_
          refine pw_iret E rfl ?_
          exact ⟨h1I, h1F, ⟨_, rfl, by omega, by omega⟩⟩
        · intro hc36
          change ¬ ((24 : Int) ≤ k58_3) at hc36
          refine pw_ld E (pc' := 65) (st' := [pw_i k58_2]) rfl (fun _ => rfl) ?_
          refine pw_ld E (pc' := 66) (st' := [.ref 141, pw_i k58_2]) rfl (fun _ => rfl) ?_
          refine pw_getR (b := 147) h1I E (c := 125) (k := 10) (pc' := 69) rfl rfl rfl rfl rfl rfl rfl ?_
          refine pw_ld E (pc' := 70) (st' := [pw_i k58_3, .ref 147, pw_i k58_2]) rfl (fun _ => rfl) ?_
          refine pw_ald2 h1I E (c := 131) (pc' := 71) rfl rfl rfl (by decide) rfl (by decide) (by omega) (by omega) rfl (fun hf37a hf37b => ?_)
          refine pw_if E (pc' := 91) rfl (by decide) (by omega) (by omega) ?_ ?_
          · intro hc38
            change pw_g h1 131 (k58_3.toNat) = (0 : Int) at hc38
            refine pw_ld E (pc' := 92) (st' := [pw_i 0, pw_i k58_2]) rfl (fun _ => rfl) ?_
            refine pw_add E (pc' := 93) rfl rfl ?_
            refine pw_istn E (pc' := 94) (ls' := [some (.ref 141), some (pw_i wt), some (pw_i (k58_2 + 0)), some (pw_i k58_3)]) rfl rfl rfl rfl ?_
            refine pw_inc E (pc' := 97) (ls' := [some (.ref 141), some (pw_i wt), some (pw_i (k58_2 + 0)), some (pw_i (k58_3 + 1))]) rfl rfl rfl rfl ?_
            refine pw_goto E (pc' := 58) rfl (by decide) ?_
            exact ih58 _ (by omega) (k58_2 + 0) (k58_3 + 1)  (by omega) (by omega) (by omega) (by omega)  rfl
          · intro hc39
            change ¬ (pw_g h1 131 (k58_3.toNat) = (0 : Int)) at hc39
            refine pw_ld E (pc' := 75) (st' := [pw_i wt, pw_i k58_2]) rfl (fun _ => rfl) ?_
            refine pw_if E (pc' := 87) rfl (by decide) (by omega) (by omega) ?_ ?_
            · intro hc40
              change wt = (0 : Int) at hc40
              exfalso; omega
            · intro hc41
              change ¬ (wt = (0 : Int)) at hc41
              refine pw_ld E (pc' := 79) (st' := [.ref 141, pw_i k58_2]) rfl (fun _ => rfl) ?_
              refine pw_getR (b := 151) h1I E (c := 125) (k := 14) (pc' := 82) rfl rfl rfl rfl rfl rfl rfl ?_
              refine pw_ld E (pc' := 83) (st' := [pw_i k58_3, .ref 151, pw_i k58_2]) rfl (fun _ => rfl) ?_
              refine pw_ald2 h1I E (c := 135) (pc' := 84) rfl rfl rfl (by decide) rfl (by decide) (by omega) (by omega) rfl (fun hf42a hf42b => ?_)
              refine pw_if E (pc' := 91) rfl (by decide) (by omega) (by omega) ?_ ?_
              · intro hc43
                change pw_g h1 135 (k58_3.toNat) = (0 : Int) at hc43
                refine pw_ld E (pc' := 92) (st' := [pw_i 0, pw_i k58_2]) rfl (fun _ => rfl) ?_
                refine pw_add E (pc' := 93) rfl rfl ?_
                refine pw_istn E (pc' := 94) (ls' := [some (.ref 141), some (pw_i wt), some (pw_i (k58_2 + 0)), some (pw_i k58_3)]) rfl rfl rfl rfl ?_
                refine pw_inc E (pc' := 97) (ls' := [some (.ref 141), some (pw_i wt), some (pw_i (k58_2 + 0)), some (pw_i (k58_3 + 1))]) rfl rfl rfl rfl ?_
                refine pw_goto E (pc' := 58) rfl (by decide) ?_
                exact ih58 _ (by omega) (k58_2 + 0) (k58_3 + 1)  (by omega) (by omega) (by omega) (by omega)  rfl
              · intro hc44
                change ¬ (pw_g h1 135 (k58_3.toNat) = (0 : Int)) at hc44
                refine pw_ld E (pc' := 88) (st' := [pw_i 1, pw_i k58_2]) rfl (fun _ => rfl) ?_
                refine pw_goto E (pc' := 92) rfl (by decide) ?_
                refine pw_add E (pc' := 93) rfl rfl ?_
                refine pw_nm (fun x45 hx45a hx45b => ?_)
                refine pw_istn E (pc' := 94) (ls' := [some (.ref 141), some (pw_i wt), some (pw_i x45), some (pw_i k58_3)]) rfl rfl rfl rfl ?_
                refine pw_inc E (pc' := 97) (ls' := [some (.ref 141), some (pw_i wt), some (pw_i x45), some (pw_i (k58_3 + 1))]) rfl rfl rfl rfl ?_
                refine pw_goto E (pc' := 58) rfl (by decide) ?_
                exact ih58 _ (by omega) (x45) (k58_3 + 1)  (by omega) (by omega) (by omega) (by omega)  rfl
    exact L58 _ (0) (0)  (by omega) (by omega) (by omega) (by omega)  rfl
  · refine pw_tswD E (pc' := 200) rfl (by omega) (by omega) hs2 (by decide) ?_
    refine pw_ld E (pc' := 201) (st' := [pw_i ((-1))]) rfl (fun _ => rfl) ?_
    refine pw_iret E rfl ?_
    exact ⟨h1I, h1F, ⟨_, rfl, by omega, by omega⟩⟩
set_option maxHeartbeats 4000000 in
theorem cm_281 {X : List (Nat × List Value)} {d : Nat} {h : pm_H} (hd : 1 ≤ d) (I : pw_I h) (ix : Int) (hix1 : 0 ≤ ix) (hix2 : ix ≤ 3) : pw X d h 281 0 [some (.ref 141), some (pw_i ix)] [] (fun h' v => h = h' ∧ ∃ a : Int, v = .inl (some (pw_i a)) ∧ 0 ≤ a ∧ a ≤ 10) := by
  have E : pm_ent 281 = some (2, 2, 12, 0, pmc_281) := rfl
  refine pw_ld E (pc' := 1) (st' := [.ref 141]) rfl (fun _ => rfl) ?_
  refine pw_getR (b := 176) I E (c := 125) (k := 49) (pc' := 4) rfl rfl rfl rfl rfl rfl rfl ?_
  refine pw_ld E (pc' := 5) (st' := [pw_i ix, .ref 176]) rfl (fun _ => rfl) ?_
  refine pw_ald2 I E (c := 160) (pc' := 6) rfl rfl rfl (by decide) rfl (by decide) (by omega) (by omega) rfl (fun hf1a hf1b => ?_)
  refine pw_if E (pc' := 16) rfl (by decide) (by omega) (by omega) ?_ ?_
  · intro hc2
    change (0 : Int) ≤ pw_g h 160 (ix.toNat) at hc2
    refine pw_ld E (pc' := 17) (st' := [.ref 141]) rfl (fun _ => rfl) ?_
    refine pw_getR (b := 176) I E (c := 125) (k := 49) (pc' := 20) rfl rfl rfl rfl rfl rfl rfl ?_
    refine pw_ld E (pc' := 21) (st' := [pw_i ix, .ref 176]) rfl (fun _ => rfl) ?_
    refine pw_ald2 I E (c := 160) (pc' := 22) rfl rfl rfl (by decide) rfl (by decide) (by omega) (by omega) rfl (fun hf3a hf3b => ?_)
    refine pw_iret E rfl ?_
    exact ⟨rfl, ⟨_, rfl, by omega, by omega⟩⟩
  · intro hc4
    change ¬ ((0 : Int) ≤ pw_g h 160 (ix.toNat)) at hc4
    refine pw_ld E (pc' := 10) (st' := [.ref 141]) rfl (fun _ => rfl) ?_
    refine pw_getI2 I E (c := 125) (k := 15) (pc' := 13) rfl rfl rfl rfl rfl rfl (fun hf5a hf5b => ?_)
    refine pw_goto E (pc' := 22) rfl (by decide) ?_
    refine pw_iret E rfl ?_
    exact ⟨rfl, ⟨_, rfl, by omega, by omega⟩⟩
set_option maxHeartbeats 4000000 in
theorem cm_239 {X : List (Nat × List Value)} {d : Nat} {h : pm_H} (hd : 1 ≤ d) (I : pw_I h) (ch : Int) (hch1 : (-2147483648) ≤ ch) (hch2 : ch ≤ 2147483647) : pw X d h 239 0 [some (pw_i ch)] [] (fun h' v => h = h' ∧ ∃ a : Int, v = .inl (some (pw_i a)) ∧ 0 ≤ a ∧ a ≤ 1) := by
  have E : pm_ent 239 = some (1, 1, 12, 1, pmc_239) := rfl
  refine pw_ld E (pc' := 1) (st' := [pw_i ch]) rfl (fun _ => rfl) ?_
  refine pw_bip E (pc' := 3) rfl rfl (by decide) ?_
  refine pw_if2 E (pc' := 16) rfl (by decide) (by omega) (by omega) (by decide) (by decide) ?_ ?_
  · intro hc1
    change ch < (97 : Int) at hc1
    refine pw_ld E (pc' := 17) (st' := [pw_i 0]) rfl (fun _ => rfl) ?_
    refine pw_zret E rfl (by omega) ?_
    exact ⟨rfl, ⟨_, rfl, by omega, by omega⟩⟩
  · intro hc2
    change ¬ (ch < (97 : Int)) at hc2
    refine pw_ld E (pc' := 7) (st' := [pw_i ch]) rfl (fun _ => rfl) ?_
    refine pw_bip E (pc' := 9) rfl rfl (by decide) ?_
    refine pw_if2 E (pc' := 16) rfl (by decide) (by omega) (by omega) (by decide) (by decide) ?_ ?_
    · intro hc3
      change (122 : Int) < ch at hc3
      refine pw_ld E (pc' := 17) (st' := [pw_i 0]) rfl (fun _ => rfl) ?_
      refine pw_zret E rfl (by omega) ?_
      exact ⟨rfl, ⟨_, rfl, by omega, by omega⟩⟩
    · intro hc4
      change ¬ ((122 : Int) < ch) at hc4
      refine pw_ld E (pc' := 13) (st' := [pw_i 1]) rfl (fun _ => rfl) ?_
      refine pw_goto E (pc' := 17) rfl (by decide) ?_
      refine pw_zret E rfl (by omega) ?_
      exact ⟨rfl, ⟨_, rfl, by omega, by omega⟩⟩
set_option maxHeartbeats 4000000 in
theorem cm_242 {X : List (Nat × List Value)} {d : Nat} {h : pm_H} (hd : 1 ≤ d) (I : pw_I h) (ch : Int) (hch1 : (-2147483648) ≤ ch) (hch2 : ch ≤ 2147483647) : pw X d h 242 0 [some (pw_i ch)] [] (fun h' v => h = h' ∧ ∃ a : Int, v = .inl (some (pw_i a)) ∧ 0 ≤ a ∧ a ≤ 1) := by
  have E : pm_ent 242 = some (1, 1, 12, 1, pmc_242) := rfl
  refine pw_ld E (pc' := 1) (st' := [pw_i ch]) rfl (fun _ => rfl) ?_
  refine pw_bip E (pc' := 3) rfl rfl (by decide) ?_
  refine pw_if2 E (pc' := 48) rfl (by decide) (by omega) (by omega) (by decide) (by decide) ?_ ?_
  · intro hc1
    change ch = (40 : Int) at hc1
    refine pw_ld E (pc' := 49) (st' := [pw_i 1]) rfl (fun _ => rfl) ?_
    refine pw_goto E (pc' := 53) rfl (by decide) ?_
    refine pw_zret E rfl (by omega) ?_
    exact ⟨rfl, ⟨_, rfl, by omega, by omega⟩⟩
  · intro hc2
    change ¬ (ch = (40 : Int)) at hc2
    refine pw_ld E (pc' := 7) (st' := [pw_i ch]) rfl (fun _ => rfl) ?_
    refine pw_bip E (pc' := 9) rfl rfl (by decide) ?_
    refine pw_if2 E (pc' := 48) rfl (by decide) (by omega) (by omega) (by decide) (by decide) ?_ ?_
    · intro hc3
      change ch = (41 : Int) at hc3
      refine pw_ld E (pc' := 49) (st' := [pw_i 1]) rfl (fun _ => rfl) ?_
      refine pw_goto E (pc' := 53) rfl (by decide) ?_
      refine pw_zret E rfl (by omega) ?_
      exact ⟨rfl, ⟨_, rfl, by omega, by omega⟩⟩
    · intro hc4
      change ¬ (ch = (41 : Int)) at hc4
      refine pw_ld E (pc' := 13) (st' := [pw_i ch]) rfl (fun _ => rfl) ?_
      refine pw_bip E (pc' := 15) rfl rfl (by decide) ?_
      refine pw_if2 E (pc' := 48) rfl (by decide) (by omega) (by omega) (by decide) (by decide) ?_ ?_
      · intro hc5
        change ch = (59 : Int) at hc5
        refine pw_ld E (pc' := 49) (st' := [pw_i 1]) rfl (fun _ => rfl) ?_
        refine pw_goto E (pc' := 53) rfl (by decide) ?_
        refine pw_zret E rfl (by omega) ?_
        exact ⟨rfl, ⟨_, rfl, by omega, by omega⟩⟩
      · intro hc6
        change ¬ (ch = (59 : Int)) at hc6
        refine pw_ld E (pc' := 19) (st' := [pw_i ch]) rfl (fun _ => rfl) ?_
        refine pw_bip E (pc' := 21) rfl rfl (by decide) ?_
        refine pw_if2 E (pc' := 48) rfl (by decide) (by omega) (by omega) (by decide) (by decide) ?_ ?_
        · intro hc7
          change ch = (61 : Int) at hc7
          refine pw_ld E (pc' := 49) (st' := [pw_i 1]) rfl (fun _ => rfl) ?_
          refine pw_goto E (pc' := 53) rfl (by decide) ?_
          refine pw_zret E rfl (by omega) ?_
          exact ⟨rfl, ⟨_, rfl, by omega, by omega⟩⟩
        · intro hc8
          change ¬ (ch = (61 : Int)) at hc8
          refine pw_ld E (pc' := 25) (st' := [pw_i ch]) rfl (fun _ => rfl) ?_
          refine pw_bip E (pc' := 27) rfl rfl (by decide) ?_
          refine pw_if2 E (pc' := 48) rfl (by decide) (by omega) (by omega) (by decide) (by decide) ?_ ?_
          · intro hc9
            change ch = (60 : Int) at hc9
            refine pw_ld E (pc' := 49) (st' := [pw_i 1]) rfl (fun _ => rfl) ?_
            refine pw_goto E (pc' := 53) rfl (by decide) ?_
            refine pw_zret E rfl (by omega) ?_
            exact ⟨rfl, ⟨_, rfl, by omega, by omega⟩⟩
          · intro hc10
            change ¬ (ch = (60 : Int)) at hc10
            refine pw_ld E (pc' := 31) (st' := [pw_i ch]) rfl (fun _ => rfl) ?_
            refine pw_bip E (pc' := 33) rfl rfl (by decide) ?_
            refine pw_if2 E (pc' := 48) rfl (by decide) (by omega) (by omega) (by decide) (by decide) ?_ ?_
            · intro hc11
              change ch = (43 : Int) at hc11
              refine pw_ld E (pc' := 49) (st' := [pw_i 1]) rfl (fun _ => rfl) ?_
              refine pw_goto E (pc' := 53) rfl (by decide) ?_
              refine pw_zret E rfl (by omega) ?_
              exact ⟨rfl, ⟨_, rfl, by omega, by omega⟩⟩
            · intro hc12
              change ¬ (ch = (43 : Int)) at hc12
              refine pw_ld E (pc' := 37) (st' := [pw_i ch]) rfl (fun _ => rfl) ?_
              refine pw_bip E (pc' := 39) rfl rfl (by decide) ?_
              refine pw_if2 E (pc' := 48) rfl (by decide) (by omega) (by omega) (by decide) (by decide) ?_ ?_
              · intro hc13
                change ch = (45 : Int) at hc13
                refine pw_ld E (pc' := 49) (st' := [pw_i 1]) rfl (fun _ => rfl) ?_
                refine pw_goto E (pc' := 53) rfl (by decide) ?_
                refine pw_zret E rfl (by omega) ?_
                exact ⟨rfl, ⟨_, rfl, by omega, by omega⟩⟩
              · intro hc14
                change ¬ (ch = (45 : Int)) at hc14
                refine pw_ld E (pc' := 43) (st' := [pw_i ch]) rfl (fun _ => rfl) ?_
                refine pw_bip E (pc' := 45) rfl rfl (by decide) ?_
                refine pw_if2 E (pc' := 52) rfl (by decide) (by omega) (by omega) (by decide) (by decide) ?_ ?_
                · intro hc15
                  change ch ≠ (42 : Int) at hc15
                  refine pw_ld E (pc' := 53) (st' := [pw_i 0]) rfl (fun _ => rfl) ?_
                  refine pw_zret E rfl (by omega) ?_
                  exact ⟨rfl, ⟨_, rfl, by omega, by omega⟩⟩
                · intro hc16
                  change ¬ (ch ≠ (42 : Int)) at hc16
                  refine pw_ld E (pc' := 49) (st' := [pw_i 1]) rfl (fun _ => rfl) ?_
                  refine pw_goto E (pc' := 53) rfl (by decide) ?_
                  refine pw_zret E rfl (by omega) ?_
                  exact ⟨rfl, ⟨_, rfl, by omega, by omega⟩⟩
set_option maxHeartbeats 4000000 in
theorem cm_240 {X : List (Nat × List Value)} {d : Nat} {h : pm_H} (hd : 2 ≤ d) (I : pw_I h) (ch : Int) (hch1 : (-2147483648) ≤ ch) (hch2 : ch ≤ 2147483647) : pw X d h 240 0 [some (pw_i ch)] [] (fun h' v => h = h' ∧ ∃ a : Int, v = .inl (some (pw_i a)) ∧ (-2147483648) ≤ a ∧ a ≤ 2147483647) := by
  have E : pm_ent 240 = some (1, 1, 12, 0, pmc_240) := rfl
  refine pw_ld E (pc' := 1) (st' := [pw_i ch]) rfl (fun _ => rfl) ?_
  refine pw_call (m' := 239) (As := [pw_i ch]) (rest := []) (ls'' := [some (pw_i ch)]) (Nat.le_trans (by decide) hd) E rfl (fun _ => pw_iS rfl rfl rfl) (rfl : pm_ent 239 = some (1, 1, 12, 1, pmc_239)) rfl rfl (cm_239 (pw_dp hd (by decide)) I (ch) (by omega) (by omega)) ?_
  rintro u2 v1 ⟨rfl, x3, rfl, hx3a, hx3b⟩
  refine ⟨_, rfl, ?_⟩
  show pw X d h 240 4 [some (pw_i ch)] [pw_i x3] _
  refine pw_if E (pc' := 14) rfl (by decide) (by omega) (by omega) ?_ ?_
  · intro hc4
    change x3 = (0 : Int) at hc4
    refine pw_ld E (pc' := 15) (st' := [pw_i ch]) rfl (fun _ => rfl) ?_
    refine pw_bip E (pc' := 17) rfl rfl (by decide) ?_
    refine pw_sub E (pc' := 18) rfl rfl ?_
    refine pw_nm (fun x5 hx5a hx5b => ?_)
    refine pw_iret E rfl ?_
    exact ⟨rfl, ⟨_, rfl, by omega, by omega⟩⟩
  · intro hc6
    change ¬ (x3 = (0 : Int)) at hc6
    refine pw_ld E (pc' := 8) (st' := [pw_i ch]) rfl (fun _ => rfl) ?_
    refine pw_bip E (pc' := 10) rfl rfl (by decide) ?_
    refine pw_sub E (pc' := 11) rfl rfl ?_
    refine pw_nm (fun x7 hx7a hx7b => ?_)
    refine pw_goto E (pc' := 18) rfl (by decide) ?_
    refine pw_iret E rfl ?_
    exact ⟨rfl, ⟨_, rfl, by omega, by omega⟩⟩

