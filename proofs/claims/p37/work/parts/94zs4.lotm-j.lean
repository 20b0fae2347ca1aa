section
/-! draws of the model, exactly -/
set_option maxHeartbeats 4000000 in
theorem cm_298_s {X : List (Nat × List Value)} {d : Nat} {h : pm_H} (hd : 1 ≤ d) (I : pw_I h) (st : Int) (hst1 : 0 ≤ st) (hst2 : st ≤ 511) : pw X d h 298 0 [some (pw_i st), none, none] [] (fun h' v => h = h' ∧ ∃ a : Int, v = .inl (some (pw_i a)) ∧ 0 ≤ a ∧ a ≤ 9 ∧ (a = (pb_n st.toNat 9 : Int))) := by
  have E : pm_ent 298 = some (1, 3, 12, 0, pmc_298) := rfl
  refine pw_ld E (pc' := 1) (st' := [pw_i 0]) rfl (fun _ => rfl) ?_
  refine pw_istn E (pc' := 2) (ls' := [some (pw_i st), some (pw_i 0), none]) rfl rfl rfl rfl ?_
  refine pw_ld E (pc' := 3) (st' := [pw_i 0]) rfl (fun _ => rfl) ?_
  refine pw_istn E (pc' := 4) (ls' := [some (pw_i st), some (pw_i 0), some (pw_i 0)]) rfl rfl rfl rfl ?_
  have L4 : ∀ (n4 : Nat) (k4_1 : Int) (k4_2 : Int), 0 ≤ k4_1 → k4_1 ≤ 9 → 0 ≤ k4_2 → k4_2 ≤ 9 → k4_1 = (pb_n st.toNat (k4_2).toNat : Int) → k4_1 ≤ k4_2 → (9 - k4_2).toNat = n4 → pw X d h 298 4 [some (pw_i st), some (pw_i k4_1), some (pw_i k4_2)] [] (fun h' v => h = h' ∧ ∃ a : Int, v = .inl (some (pw_i a)) ∧ 0 ≤ a ∧ a ≤ 9 ∧ (a = (pb_n st.toNat 9 : Int))) := by
    intro n4
    induction n4 using Nat.strongRecOn with
    | ind n4 ih4 =>
      intro k4_1 k4_2 k4_1a k4_1b k4_2a k4_2b hx4_0 hx4_1 hm4
      refine pw_ld E (pc' := 5) (st' := [pw_i k4_2]) rfl (fun _ => rfl) ?_
      refine pw_bip E (pc' := 7) rfl rfl (by decide) ?_
      refine pw_if2 E (pc' := 24) rfl (by decide) (by omega) (by omega) (by decide) (by decide) ?_ ?_
      · intro hc1
        change (9 : Int) ≤ k4_2 at hc1
        refine pw_ld E (pc' := 25) (st' := [pw_i k4_1]) rfl (fun _ => rfl) ?_
        refine pw_iret E rfl ?_
        exact ⟨rfl, ⟨_, rfl, by omega, by omega, (by rw [show (9 : Nat) = (k4_2).toNat by omega]; exact hx4_0)⟩⟩
      · intro hc2
        change ¬ ((9 : Int) ≤ k4_2) at hc2
        have n1 := pb_nS (s := st.toNat) (k := k4_2) (by omega)
        have hbit := pb_bit (s := st) (k := k4_2) (by omega) (by omega) (by omega) (by omega)
        have hb2 := pb_b2 (st).toNat (k4_2).toNat
        refine pw_ld E (pc' := 11) (st' := [pw_i k4_1]) rfl (fun _ => rfl) ?_
        refine pw_ld E (pc' := 12) (st' := [pw_i st, pw_i k4_1]) rfl (fun _ => rfl) ?_
        refine pw_ld E (pc' := 13) (st' := [pw_i k4_2, pw_i st, pw_i k4_1]) rfl (fun _ => rfl) ?_
        refine pw_iiE (f := fun x y => x >>> (y &&& 31)) (c := pw_sr st k4_2) E (pc' := 14) rfl (fun _ => rfl) rfl ?_
        have hp3 := pw_sr_r st k4_2
        refine pw_ld E (pc' := 15) (st' := [pw_i 1, pw_i (pw_sr st k4_2), pw_i k4_1]) rfl (fun _ => rfl) ?_
        refine pw_iiE (f := fun x y => x &&& y) (c := pw_an (pw_sr st k4_2) 1) E (pc' := 16) rfl (fun _ => rfl) rfl ?_
        have hp4 := pw_an_r (pw_sr st k4_2)
        refine pw_add E (pc' := 17) rfl rfl ?_
        refine pw_istn E (pc' := 18) (ls' := [some (pw_i st), some (pw_i (k4_1 + (pw_an (pw_sr st k4_2) 1))), some (pw_i k4_2)]) rfl rfl rfl rfl ?_
        refine pw_inc E (pc' := 21) (ls' := [some (pw_i st), some (pw_i (k4_1 + (pw_an (pw_sr st k4_2) 1))), some (pw_i (k4_2 + 1))]) rfl rfl rfl rfl ?_
        refine pw_goto E (pc' := 4) rfl (by decide) ?_
        exact ih4 _ (by omega) (k4_1 + (pw_an (pw_sr st k4_2) 1)) (k4_2 + 1)  (by omega) (by omega) (by omega) (by omega) (by omega) (by omega) rfl
  exact L4 _ (0) (0)  (by omega) (by omega) (by omega) (by omega) rfl (by omega) rfl
set_option maxHeartbeats 4000000 in
theorem cm_299_164s {X : List (Nat × List Value)} {d : Nat} {h : pm_H} (hd : 1 ≤ d) (I : pw_I h) (st : Int) (hst1 : 0 ≤ st) (hst2 : st ≤ 511) (hp0 : ∀ j : Nat, pb_b st.toNat j = 1 → -2000 ≤ pw_g h 164 j ∧ pw_g h 164 j ≤ 2000) : pw X d h 299 0 [some (.ref 180), some (pw_i st), none, none, none] [] (fun h' v => h = h' ∧ ∃ a : Int, v = .inl (some (.long (Int64.ofInt a))) ∧ (-18000) ≤ a ∧ a ≤ 18000 ∧ (a = pb_S (pw_g h 164) st.toNat 9)) := by
  have E : pm_ent 299 = some (2, 5, 12, 2, pmc_299) := rfl
  refine pw_ld E (pc' := 1) (st' := [.long (Int64.ofInt 0)]) rfl (fun _ => rfl) ?_
  refine pw_lstn E (pc' := 2) (ls' := [some (.ref 180), some (pw_i st), some (.long (Int64.ofInt 0)), none, none]) rfl rfl rfl rfl ?_
  refine pw_ld E (pc' := 3) (st' := [pw_i 0]) rfl (fun _ => rfl) ?_
  refine pw_ist E (pc' := 5) (ls' := [some (.ref 180), some (pw_i st), some (.long (Int64.ofInt 0)), none, some (pw_i 0)]) rfl rfl rfl rfl ?_
  have L5 : ∀ (n5 : Nat) (k5_2 : Int) (k5_4 : Int), (-18000) ≤ k5_2 → k5_2 ≤ 18000 → 0 ≤ k5_4 → k5_4 ≤ 9 → k5_2 = pb_S (pw_g h 164) st.toNat (k5_4).toNat → (-2000) * k5_4 ≤ k5_2 → k5_2 ≤ 2000 * k5_4 → (9 - k5_4).toNat = n5 → pw X d h 299 5 [some (.ref 180), some (pw_i st), some (.long (Int64.ofInt k5_2)), none, some (pw_i k5_4)] [] (fun h' v => h = h' ∧ ∃ a : Int, v = .inl (some (.long (Int64.ofInt a))) ∧ (-18000) ≤ a ∧ a ≤ 18000 ∧ (a = pb_S (pw_g h 164) st.toNat 9)) := by
    intro n5
    induction n5 using Nat.strongRecOn with
    | ind n5 ih5 =>
      intro k5_2 k5_4 k5_2a k5_2b k5_4a k5_4b hx5_0 hx5_1 hx5_2 hm5
      refine pw_ld E (pc' := 7) (st' := [pw_i k5_4]) rfl (fun _ => rfl) ?_
      refine pw_bip E (pc' := 9) rfl rfl (by decide) ?_
      refine pw_if2 E (pc' := 40) rfl (by decide) (by omega) (by omega) (by decide) (by decide) ?_ ?_
      · intro hc1
        change (9 : Int) ≤ k5_4 at hc1
        refine pw_ld E (pc' := 41) (st' := [.long (Int64.ofInt k5_2)]) rfl (fun _ => rfl) ?_
        refine pw_lret E rfl ?_
        exact ⟨rfl, ⟨_, rfl, by omega, by omega, (by rw [show (9 : Nat) = (k5_4).toNat by omega]; exact hx5_0)⟩⟩
      · intro hc2
        change ¬ ((9 : Int) ≤ k5_4) at hc2
        have o1 := pb_SS (r := pw_g h 164) (s := st.toNat) (k := k5_4) (by omega)
        have hbit := pb_bit (s := st) (k := k5_4) (by omega) (by omega) (by omega) (by omega)
        have hb2 := pb_b2 (st).toNat (k5_4).toNat
        refine pw_ld E (pc' := 13) (st' := [.long (Int64.ofInt k5_2)]) rfl (fun _ => rfl) ?_
        refine pw_ld E (pc' := 14) (st' := [pw_i st, .long (Int64.ofInt k5_2)]) rfl (fun _ => rfl) ?_
        refine pw_ld E (pc' := 16) (st' := [pw_i k5_4, pw_i st, .long (Int64.ofInt k5_2)]) rfl (fun _ => rfl) ?_
        refine pw_iiE (f := fun x y => x >>> (y &&& 31)) (c := pw_sr st k5_4) E (pc' := 17) rfl (fun _ => rfl) rfl ?_
        have hp3 := pw_sr_r st k5_4
        refine pw_ld E (pc' := 18) (st' := [pw_i 1, pw_i (pw_sr st k5_4), .long (Int64.ofInt k5_2)]) rfl (fun _ => rfl) ?_
        refine pw_iiE (f := fun x y => x &&& y) (c := pw_an (pw_sr st k5_4) 1) E (pc' := 19) rfl (fun _ => rfl) rfl ?_
        have hp4 := pw_an_r (pw_sr st k5_4)
        refine pw_ld E (pc' := 20) (st' := [pw_i 1, pw_i (pw_an (pw_sr st k5_4) 1), .long (Int64.ofInt k5_2)]) rfl (fun _ => rfl) ?_
        refine pw_if2 E (pc' := 31) rfl (by decide) (by omega) (by omega) (by decide) (by decide) ?_ ?_
        · intro hc5
          change pw_an (pw_sr st k5_4) 1 ≠ (1 : Int) at hc5
          refine pw_ld E (pc' := 32) (st' := [.long (Int64.ofInt 0), .long (Int64.ofInt k5_2)]) rfl (fun _ => rfl) ?_
          have s2 := o1.2 (by omega)
          refine pw_ladd E (pc' := 33) rfl rfl ?_
          refine pw_lstn E (pc' := 34) (ls' := [some (.ref 180), some (pw_i st), some (.long (Int64.ofInt (k5_2 + 0))), none, some (pw_i k5_4)]) rfl rfl rfl rfl ?_
          refine pw_inc E (pc' := 37) (ls' := [some (.ref 180), some (pw_i st), some (.long (Int64.ofInt (k5_2 + 0))), none, some (pw_i (k5_4 + 1))]) rfl rfl rfl rfl ?_
          refine pw_goto E (pc' := 5) rfl (by decide) ?_
          exact ih5 _ (by omega) (k5_2 + 0) (k5_4 + 1)  (by omega) (by omega) (by omega) (by omega) (by omega) (by omega) (by omega) rfl
        · intro hc6
          change ¬ (pw_an (pw_sr st k5_4) 1 ≠ (1 : Int)) at hc6
          refine pw_ld E (pc' := 24) (st' := [.ref 180, .long (Int64.ofInt k5_2)]) rfl (fun _ => rfl) ?_
          refine pw_ld E (pc' := 26) (st' := [pw_i k5_4, .ref 180, .long (Int64.ofInt k5_2)]) rfl (fun _ => rfl) ?_
          refine pw_ald2 I E (c := 164) (pc' := 27) rfl rfl rfl (by decide) rfl (by decide) (by omega) (by omega) rfl (fun hf7a hf7b => ?_)
          have o2 := hp0 (k5_4).toNat (by omega)
          refine pw_i2l E (pc' := 28) rfl rfl (by omega) (by omega) ?_
          refine pw_goto E (pc' := 32) rfl (by decide) ?_
          have s2 := o1.1 (by omega)
          refine pw_ladd E (pc' := 33) rfl rfl ?_
          refine pw_lstn E (pc' := 34) (ls' := [some (.ref 180), some (pw_i st), some (.long (Int64.ofInt (k5_2 + (pw_g h 164 (k5_4.toNat))))), none, some (pw_i k5_4)]) rfl rfl rfl rfl ?_
          refine pw_inc E (pc' := 37) (ls' := [some (.ref 180), some (pw_i st), some (.long (Int64.ofInt (k5_2 + (pw_g h 164 (k5_4.toNat))))), none, some (pw_i (k5_4 + 1))]) rfl rfl rfl rfl ?_
          refine pw_goto E (pc' := 5) rfl (by decide) ?_
          exact ih5 _ (by omega) (k5_2 + (pw_g h 164 (k5_4.toNat))) (k5_4 + 1)  (by omega) (by omega) (by omega) (by omega) (by omega) (by omega) (by omega) rfl
  exact L5 _ (0) (0)  (by omega) (by omega) (by omega) (by omega) rfl (by omega) (by omega) rfl
set_option maxHeartbeats 4000000 in
theorem cm_299_165s {X : List (Nat × List Value)} {d : Nat} {h : pm_H} (hd : 1 ≤ d) (I : pw_I h) (st : Int) (hst1 : 0 ≤ st) (hst2 : st ≤ 511) (hp0 : ∀ j : Nat, pb_b st.toNat j = 1 → -2000 ≤ pw_g h 165 j ∧ pw_g h 165 j ≤ 2000) : pw X d h 299 0 [some (.ref 181), some (pw_i st), none, none, none] [] (fun h' v => h = h' ∧ ∃ a : Int, v = .inl (some (.long (Int64.ofInt a))) ∧ (-18000) ≤ a ∧ a ≤ 18000 ∧ (a = pb_S (pw_g h 165) st.toNat 9)) := by
  have E : pm_ent 299 = some (2, 5, 12, 2, pmc_299) := rfl
  refine pw_ld E (pc' := 1) (st' := [.long (Int64.ofInt 0)]) rfl (fun _ => rfl) ?_
  refine pw_lstn E (pc' := 2) (ls' := [some (.ref 181), some (pw_i st), some (.long (Int64.ofInt 0)), none, none]) rfl rfl rfl rfl ?_
  refine pw_ld E (pc' := 3) (st' := [pw_i 0]) rfl (fun _ => rfl) ?_
  refine pw_ist E (pc' := 5) (ls' := [some (.ref 181), some (pw_i st), some (.long (Int64.ofInt 0)), none, some (pw_i 0)]) rfl rfl rfl rfl ?_
  have L5 : ∀ (n5 : Nat) (k5_2 : Int) (k5_4 : Int), (-18000) ≤ k5_2 → k5_2 ≤ 18000 → 0 ≤ k5_4 → k5_4 ≤ 9 → k5_2 = pb_S (pw_g h 165) st.toNat (k5_4).toNat → (-2000) * k5_4 ≤ k5_2 → k5_2 ≤ 2000 * k5_4 → (9 - k5_4).toNat = n5 → pw X d h 299 5 [some (.ref 181), some (pw_i st), some (.long (Int64.ofInt k5_2)), none, some (pw_i k5_4)] [] (fun h' v => h = h' ∧ ∃ a : Int, v = .inl (some (.long (Int64.ofInt a))) ∧ (-18000) ≤ a ∧ a ≤ 18000 ∧ (a = pb_S (pw_g h 165) st.toNat 9)) := by
    intro n5
    induction n5 using Nat.strongRecOn with
    | ind n5 ih5 =>
      intro k5_2 k5_4 k5_2a k5_2b k5_4a k5_4b hx5_0 hx5_1 hx5_2 hm5
      refine pw_ld E (pc' := 7) (st' := [pw_i k5_4]) rfl (fun _ => rfl) ?_
      refine pw_bip E (pc' := 9) rfl rfl (by decide) ?_
      refine pw_if2 E (pc' := 40) rfl (by decide) (by omega) (by omega) (by decide) (by decide) ?_ ?_
      · intro hc1
        change (9 : Int) ≤ k5_4 at hc1
        refine pw_ld E (pc' := 41) (st' := [.long (Int64.ofInt k5_2)]) rfl (fun _ => rfl) ?_
        refine pw_lret E rfl ?_
        exact ⟨rfl, ⟨_, rfl, by omega, by omega, (by rw [show (9 : Nat) = (k5_4).toNat by omega]; exact hx5_0)⟩⟩
      · intro hc2
        change ¬ ((9 : Int) ≤ k5_4) at hc2
        have o1 := pb_SS (r := pw_g h 165) (s := st.toNat) (k := k5_4) (by omega)
        have hbit := pb_bit (s := st) (k := k5_4) (by omega) (by omega) (by omega) (by omega)
        have hb2 := pb_b2 (st).toNat (k5_4).toNat
        refine pw_ld E (pc' := 13) (st' := [.long (Int64.ofInt k5_2)]) rfl (fun _ => rfl) ?_
        refine pw_ld E (pc' := 14) (st' := [pw_i st, .long (Int64.ofInt k5_2)]) rfl (fun _ => rfl) ?_
        refine pw_ld E (pc' := 16) (st' := [pw_i k5_4, pw_i st, .long (Int64.ofInt k5_2)]) rfl (fun _ => rfl) ?_
        refine pw_iiE (f := fun x y => x >>> (y &&& 31)) (c := pw_sr st k5_4) E (pc' := 17) rfl (fun _ => rfl) rfl ?_
        have hp3 := pw_sr_r st k5_4
        refine pw_ld E (pc' := 18) (st' := [pw_i 1, pw_i (pw_sr st k5_4), .long (Int64.ofInt k5_2)]) rfl (fun _ => rfl) ?_
        refine pw_iiE (f := fun x y => x &&& y) (c := pw_an (pw_sr st k5_4) 1) E (pc' := 19) rfl (fun _ => rfl) rfl ?_
        have hp4 := pw_an_r (pw_sr st k5_4)
        refine pw_ld E (pc' := 20) (st' := [pw_i 1, pw_i (pw_an (pw_sr st k5_4) 1), .long (Int64.ofInt k5_2)]) rfl (fun _ => rfl) ?_
        refine pw_if2 E (pc' := 31) rfl (by decide) (by omega) (by omega) (by decide) (by decide) ?_ ?_
        · intro hc5
          change pw_an (pw_sr st k5_4) 1 ≠ (1 : Int) at hc5
          refine pw_ld E (pc' := 32) (st' := [.long (Int64.ofInt 0), .long (Int64.ofInt k5_2)]) rfl (fun _ => rfl) ?_
          have s2 := o1.2 (by omega)
          refine pw_ladd E (pc' := 33) rfl rfl ?_
          refine pw_lstn E (pc' := 34) (ls' := [some (.ref 181), some (pw_i st), some (.long (Int64.ofInt (k5_2 + 0))), none, some (pw_i k5_4)]) rfl rfl rfl rfl ?_
          refine pw_inc E (pc' := 37) (ls' := [some (.ref 181), some (pw_i st), some (.long (Int64.ofInt (k5_2 + 0))), none, some (pw_i (k5_4 + 1))]) rfl rfl rfl rfl ?_
          refine pw_goto E (pc' := 5) rfl (by decide) ?_
          exact ih5 _ (by omega) (k5_2 + 0) (k5_4 + 1)  (by omega) (by omega) (by omega) (by omega) (by omega) (by omega) (by omega) rfl
        · intro hc6
          change ¬ (pw_an (pw_sr st k5_4) 1 ≠ (1 : Int)) at hc6
          refine pw_ld E (pc' := 24) (st' := [.ref 181, .long (Int64.ofInt k5_2)]) rfl (fun _ => rfl) ?_
          refine pw_ld E (pc' := 26) (st' := [pw_i k5_4, .ref 181, .long (Int64.ofInt k5_2)]) rfl (fun _ => rfl) ?_
          refine pw_ald2 I E (c := 165) (pc' := 27) rfl rfl rfl (by decide) rfl (by decide) (by omega) (by omega) rfl (fun hf7a hf7b => ?_)
          have o2 := hp0 (k5_4).toNat (by omega)
          refine pw_i2l E (pc' := 28) rfl rfl (by omega) (by omega) ?_
          refine pw_goto E (pc' := 32) rfl (by decide) ?_
          have s2 := o1.1 (by omega)
          refine pw_ladd E (pc' := 33) rfl rfl ?_
          refine pw_lstn E (pc' := 34) (ls' := [some (.ref 181), some (pw_i st), some (.long (Int64.ofInt (k5_2 + (pw_g h 165 (k5_4.toNat))))), none, some (pw_i k5_4)]) rfl rfl rfl rfl ?_
          refine pw_inc E (pc' := 37) (ls' := [some (.ref 181), some (pw_i st), some (.long (Int64.ofInt (k5_2 + (pw_g h 165 (k5_4.toNat))))), none, some (pw_i (k5_4 + 1))]) rfl rfl rfl rfl ?_
          refine pw_goto E (pc' := 5) rfl (by decide) ?_
          exact ih5 _ (by omega) (k5_2 + (pw_g h 165 (k5_4.toNat))) (k5_4 + 1)  (by omega) (by omega) (by omega) (by omega) (by omega) (by omega) (by omega) rfl
  exact L5 _ (0) (0)  (by omega) (by omega) (by omega) (by omega) rfl (by omega) (by omega) rfl
set_option maxHeartbeats 4000000 in
theorem cm_297_s {X : List (Nat × List Value)} {d : Nat} {h : pm_H} (hd : 1 ≤ d) (I : pw_I h) (x : Int) (hx1 : (-1099511627776) ≤ x) (hx2 : x ≤ 1099511627776) : pw X d h 297 0 [some (.long (Int64.ofInt x)), none] [] (fun h' v => h = h' ∧ ∃ a : Int, v = .inl (some (pw_i a)) ∧ (-1) ≤ a ∧ a ≤ 1 ∧ (a = pl_sg x)) := by
  have E : pm_ent 297 = some (1, 2, 12, 0, pmc_297) := rfl
  refine pw_ld E (pc' := 1) (st' := [.long (Int64.ofInt x)]) rfl (fun _ => rfl) ?_
  refine pw_ld E (pc' := 2) (st' := [.long (Int64.ofInt 0), .long (Int64.ofInt x)]) rfl (fun _ => rfl) ?_
  refine pw_lcmpC E (pc' := 3) rfl rfl (by omega) (by omega) (by omega) (by omega) (fun c1 hc1 => ?_)
  refine pw_if E (pc' := 10) rfl (by decide) (by omega) (by omega) ?_ ?_
  · intro hc2
    change (0 : Int) ≤ c1 at hc2
    refine pw_ld E (pc' := 11) (st' := [.long (Int64.ofInt x)]) rfl (fun _ => rfl) ?_
    refine pw_ld E (pc' := 12) (st' := [.long (Int64.ofInt 0), .long (Int64.ofInt x)]) rfl (fun _ => rfl) ?_
    refine pw_lcmpC E (pc' := 13) rfl rfl (by omega) (by omega) (by omega) (by omega) (fun c3 hc3 => ?_)
    refine pw_if E (pc' := 20) rfl (by decide) (by omega) (by omega) ?_ ?_
    · intro hc4
      change c3 ≤ (0 : Int) at hc4
      refine pw_ld E (pc' := 21) (st' := [pw_i 0]) rfl (fun _ => rfl) ?_
      refine pw_iret E rfl ?_
      have sI := pl_sgI (x := x)
      exact ⟨rfl, ⟨_, rfl, by omega, by omega, (sI.2.2 (by omega)).symm⟩⟩
    · intro hc5
      change ¬ (c3 ≤ (0 : Int)) at hc5
      refine pw_ld E (pc' := 17) (st' := [pw_i 1]) rfl (fun _ => rfl) ?_
      refine pw_goto E (pc' := 21) rfl (by decide) ?_
      refine pw_iret E rfl ?_
      have sI := pl_sgI (x := x)
      exact ⟨rfl, ⟨_, rfl, by omega, by omega, (sI.2.1 (by omega)).symm⟩⟩
  · intro hc6
    change ¬ ((0 : Int) ≤ c1) at hc6
    refine pw_ld E (pc' := 7) (st' := [pw_i ((-1))]) rfl (fun _ => rfl) ?_
    refine pw_goto E (pc' := 21) rfl (by decide) ?_
    refine pw_iret E rfl ?_
    have sI := pl_sgI (x := x)
    exact ⟨rfl, ⟨_, rfl, by omega, by omega, (sI.1 (by omega)).symm⟩⟩
set_option maxHeartbeats 4000000 in
theorem cm_295_s {X : List (Nat × List Value)} {d : Nat} {h : pm_H} (hd : 5 ≤ d) (I : pw_I h) (b : Int) (hb1 : (-2147483648) ≤ b) (hb2 : b ≤ 2147483647) (e : Int) (he1 : (-2147483648) ≤ e) (he2 : e ≤ 2147483647) : pw X d h 295 0 [some (.ref 141), some (pw_i b), some (pw_i e), none, none, none] [] (fun h' v => pw_I h' ∧ pw_E [125, 164, 165] h h' ∧ ∃ a : Int, v = .inl (some (pw_i a)) ∧ 0 ≤ a ∧ a ≤ 1 ∧ ((a = 1 ∧ ((0 ≤ b ∧ b ≤ 11 ∧ 0 ≤ e ∧ e ≤ 11 ∧ b ≠ e) ∧ pv_OK (pv_sdm h b e) ∧ pv_N (pv_sdm h b e) 0 24 ≤ 9 ∧ pv_N (pv_sdm h b e) 1 24 ≤ 9) ∧ pc_GA (pv_sdm h b e) (pv_chm h b e) 0 (pw_g h' 164) 24 ∧ pc_GA (pv_sdm h b e) (pv_chm h b e) 1 (pw_g h' 165) 24 ∧ pw_gm h' 125 26 = pv_S (pv_sdm h b e) (pv_chm h b e) 0 24 ∧ pw_gm h' 125 27 = pv_N (pv_sdm h b e) 0 24 ∧ pw_gm h' 125 28 = pv_S (pv_sdm h b e) (pv_chm h b e) 1 24 ∧ pw_gm h' 125 29 = pv_N (pv_sdm h b e) 1 24) ∨ (a = 0 ∧ ¬ ((0 ≤ b ∧ b ≤ 11 ∧ 0 ≤ e ∧ e ≤ 11 ∧ b ≠ e) ∧ pv_OK (pv_sdm h b e) ∧ pv_N (pv_sdm h b e) 0 24 ≤ 9 ∧ pv_N (pv_sdm h b e) 1 24 ≤ 9)))) := by
  have E : pm_ent 295 = some (3, 6, 12, 1, pmc_295) := rfl
  have E0 : pw_E [125, 164, 165] h h := pw_E.rf _ _
  refine pw_ld E (pc' := 1) (st' := [pw_i b]) rfl (fun _ => rfl) ?_
  refine pw_ld E (pc' := 2) (st' := [pw_i e, pw_i b]) rfl (fun _ => rfl) ?_
  refine pw_call (m' := 213) (As := [pw_i b, pw_i e]) (rest := []) (ls'' := [some (pw_i b), some (pw_i e)]) (Nat.le_trans (by decide) hd) E rfl (fun _ => pw_iS rfl rfl rfl) (rfl : pm_ent 213 = some (2, 2, 12, 1, pmc_213)) rfl rfl (cm_213_s (pw_dp hd (by decide)) I (b) (by omega) (by omega) (e) (by omega) (by omega)) ?_
  rintro u2 v1 ⟨rfl, x3, rfl, hx3a, hx3b, hx3r⟩
  refine ⟨_, rfl, ?_⟩
  show pw X d h 295 5 [some (.ref 141), some (pw_i b), some (pw_i e), none, none, none] [pw_i x3] _
  change (x3 = 1 ∧ 0 ≤ b ∧ b ≤ 11 ∧ 0 ≤ e ∧ e ≤ 11 ∧ b ≠ e) ∨ (x3 = 0 ∧ ¬ (0 ≤ b ∧ b ≤ 11 ∧ 0 ≤ e ∧ e ≤ 11 ∧ b ≠ e)) at hx3r
  rcases (by omega : x3 = 1 ∨ x3 = 0) with hb4 | hb4
  · skip
    refine pw_if E (pc' := 40) rfl (by decide) (by omega) (by omega) ?_ ?_
    · intro hc5
      change x3 = (0 : Int) at hc5
      exfalso; omega
    · intro hc6
      change ¬ (x3 = (0 : Int)) at hc6
      refine pw_ld E (pc' := 9) (st' := [.ref 141]) rfl (fun _ => rfl) ?_
      refine pw_ld E (pc' := 10) (st' := [pw_i b, .ref 141]) rfl (fun _ => rfl) ?_
      refine pw_ld E (pc' := 11) (st' := [pw_i e, pw_i b, .ref 141]) rfl (fun _ => rfl) ?_
      refine pw_ld E (pc' := 12) (st' := [pw_i ((-1)), pw_i e, pw_i b, .ref 141]) rfl (fun _ => rfl) ?_
      obtain ⟨f7l, f7h, -⟩ := pw_obj (c := 125) I rfl
      refine pw_call (m' := 218) (As := [.ref 141, pw_i b, pw_i e, pw_i ((-1))]) (rest := []) (ls'' := [some (.ref 141), some (pw_i b), some (pw_i e), some (pw_i ((-1))), none]) (Nat.le_trans (by decide) hd) E rfl (fun _ => pw_iV rfl rfl rfl rfl (pw_cellI f7h rfl)) (rfl : pm_ent 218 = some (4, 5, 12, 1, pmc_218)) rfl rfl (cm_218_s (pw_dp hd (by decide)) I (b) (by omega) (by omega) (e) (by omega) (by omega) ((-1)) (by omega) (by omega)) ?_
      rintro h8 v9 ⟨h8I, h8E, x10, rfl, hx10a, hx10b, hx10r⟩
      refine ⟨_, rfl, ?_⟩
      have h8F := E0.tr (h8E.wk (W' := [125, 164, 165]) (by first | rfl | simp))
      show pw X d h8 295 15 [some (.ref 141), some (pw_i b), some (pw_i e), none, none, none] [pw_i x10] _
      change ((x10 = 1 ∧ pv_OK (pv_lo (pv_sdm h b e) (-1))) ∨ (x10 = 0 ∧ ¬ pv_OK (pv_lo (pv_sdm h b e) (-1)))) ∧ pw_gm h8 125 24 = pv_U (pv_lo (pv_sdm h b e) (-1)) (pv_chm h b e) ∧ pw_gm h8 125 25 = pv_D (pv_lo (pv_sdm h b e) (-1)) ∧ pw_gm h8 125 26 = pv_S (pv_lo (pv_sdm h b e) (-1)) (pv_chm h b e) 0 24 ∧ pw_gm h8 125 27 = pv_N (pv_lo (pv_sdm h b e) (-1)) 0 24 ∧ pw_gm h8 125 28 = pv_S (pv_lo (pv_sdm h b e) (-1)) (pv_chm h b e) 1 24 ∧ pw_gm h8 125 29 = pv_N (pv_lo (pv_sdm h b e) (-1)) 1 24 at hx10r
      rcases (by omega : x10 = 1 ∨ x10 = 0) with hb11 | hb11
      · skip
        refine pw_if E (pc' := 40) rfl (by decide) (by omega) (by omega) ?_ ?_
        · intro hc12
          change x10 = (0 : Int) at hc12
          exfalso; omega
        · intro hc13
          change ¬ (x10 = (0 : Int)) at hc13
          rw [pv_lo_no] at hx10r
          obtain ⟨r1, r2, r3, r4, r5, r6, r7⟩ := hx10r
          have hok := (r1.resolve_right (fun q => by have := q.1; omega)).2
          have nB0 := pv_NB (sd := pv_sdm h b e) (s := 0) 24
          have nB1 := pv_NB (sd := pv_sdm h b e) (s := 1) 24
          refine pw_ld E (pc' := 19) (st' := [.ref 141]) rfl (fun _ => rfl) ?_
          refine pw_getM h8I E (c := 125) (k := 27) (pc' := 22) rfl rfl rfl rfl rfl rfl (fun hf14a hf14b => ?_)
          refine pw_ld E (pc' := 25) (st' := [.long (Int64.ofInt 9), .long (Int64.ofInt (pw_gm h8 125 27))]) rfl (fun _ => rfl) ?_
          refine pw_lcmpC E (pc' := 26) rfl rfl (by omega) (by omega) (by omega) (by omega) (fun c15 hc15 => ?_)
          refine pw_if E (pc' := 40) rfl (by decide) (by omega) (by omega) ?_ ?_
          · intro hc16
            change (0 : Int) < c15 at hc16
            refine pw_ld E (pc' := 41) (st' := [pw_i 0]) rfl (fun _ => rfl) ?_
            refine pw_zret E rfl (by omega) ?_
            exact ⟨h8I, h8F, ⟨_, rfl, by omega, by omega, Or.inr ⟨rfl, fun q => by have q3 := q.2.2; omega⟩⟩⟩
          · intro hc17
            change ¬ ((0 : Int) < c15) at hc17
            refine pw_ld E (pc' := 30) (st' := [.ref 141]) rfl (fun _ => rfl) ?_
            refine pw_getM h8I E (c := 125) (k := 29) (pc' := 33) rfl rfl rfl rfl rfl rfl (fun hf18a hf18b => ?_)
            refine pw_ld E (pc' := 36) (st' := [.long (Int64.ofInt 9), .long (Int64.ofInt (pw_gm h8 125 29))]) rfl (fun _ => rfl) ?_
            refine pw_lcmpC E (pc' := 37) rfl rfl (by omega) (by omega) (by omega) (by omega) (fun c19 hc19 => ?_)
            refine pw_if E (pc' := 42) rfl (by decide) (by omega) (by omega) ?_ ?_
            · intro hc20
              change c19 ≤ (0 : Int) at hc20
              refine pw_ld E (pc' := 43) (st' := [pw_i 0]) rfl (fun _ => rfl) ?_
              refine pw_istn E (pc' := 44) (ls' := [some (.ref 141), some (pw_i b), some (pw_i e), some (pw_i 0), none, none]) rfl rfl rfl rfl ?_
              refine pw_ld E (pc' := 45) (st' := [pw_i 0]) rfl (fun _ => rfl) ?_
              refine pw_ist E (pc' := 47) (ls' := [some (.ref 141), some (pw_i b), some (pw_i e), some (pw_i 0), some (pw_i 0), none]) rfl rfl rfl rfl ?_
              refine pw_ld E (pc' := 48) (st' := [pw_i 0]) rfl (fun _ => rfl) ?_
              refine pw_ist E (pc' := 50) (ls' := [some (.ref 141), some (pw_i b), some (pw_i e), some (pw_i 0), some (pw_i 0), some (pw_i 0)]) rfl rfl rfl rfl ?_
              have L50 : ∀ (n50 : Nat) (k50_3 : Int) (k50_4 : Int) (k50_5 : Int) (gh50 : pm_H), pw_I gh50 → pw_E [125, 164, 165] h gh50 → 0 ≤ k50_3 → k50_3 ≤ 9 → 0 ≤ k50_4 → k50_4 ≤ 9 → 0 ≤ k50_5 → k50_5 ≤ 24 → k50_3 = pv_N (pv_sdm h b e) 0 (k50_5).toNat → k50_4 = pv_N (pv_sdm h b e) 1 (k50_5).toNat → pc_GA (pv_sdm h b e) (pv_chm h b e) 0 (pw_g gh50 164) k50_5 → pc_GA (pv_sdm h b e) (pv_chm h b e) 1 (pw_g gh50 165) k50_5 → pw_gm gh50 125 26 = pv_S (pv_sdm h b e) (pv_chm h b e) 0 24 → pw_gm gh50 125 27 = pv_N (pv_sdm h b e) 0 24 → pw_gm gh50 125 28 = pv_S (pv_sdm h b e) (pv_chm h b e) 1 24 → pw_gm gh50 125 29 = pv_N (pv_sdm h b e) 1 24 → (24 - k50_5).toNat = n50 → pw X d gh50 295 50 [some (.ref 141), some (pw_i b), some (pw_i e), some (pw_i k50_3), some (pw_i k50_4), some (pw_i k50_5)] [] (fun h' v => pw_I h' ∧ pw_E [125, 164, 165] h h' ∧ ∃ a : Int, v = .inl (some (pw_i a)) ∧ 0 ≤ a ∧ a ≤ 1 ∧ ((a = 1 ∧ ((0 ≤ b ∧ b ≤ 11 ∧ 0 ≤ e ∧ e ≤ 11 ∧ b ≠ e) ∧ pv_OK (pv_sdm h b e) ∧ pv_N (pv_sdm h b e) 0 24 ≤ 9 ∧ pv_N (pv_sdm h b e) 1 24 ≤ 9) ∧ pc_GA (pv_sdm h b e) (pv_chm h b e) 0 (pw_g h' 164) 24 ∧ pc_GA (pv_sdm h b e) (pv_chm h b e) 1 (pw_g h' 165) 24 ∧ pw_gm h' 125 26 = pv_S (pv_sdm h b e) (pv_chm h b e) 0 24 ∧ pw_gm h' 125 27 = pv_N (pv_sdm h b e) 0 24 ∧ pw_gm h' 125 28 = pv_S (pv_sdm h b e) (pv_chm h b e) 1 24 ∧ pw_gm h' 125 29 = pv_N (pv_sdm h b e) 1 24) ∨ (a = 0 ∧ ¬ ((0 ≤ b ∧ b ≤ 11 ∧ 0 ≤ e ∧ e ≤ 11 ∧ b ≠ e) ∧ pv_OK (pv_sdm h b e) ∧ pv_N (pv_sdm h b e) 0 24 ≤ 9 ∧ pv_N (pv_sdm h b e) 1 24 ≤ 9)))) := by
                intro n50
                induction n50 using Nat.strongRecOn with
                | ind n50 ih50 =>
                  intro k50_3 k50_4 k50_5 gh50 I50 E50 k50_3a k50_3b k50_4a k50_4b k50_5a k50_5b hx50_0 hx50_1 hx50_2 hx50_3 hx50_4 hx50_5 hx50_6 hx50_7 hm50
                  refine pw_ld E (pc' := 52) (st' := [pw_i k50_5]) rfl (fun _ => rfl) ?_
                  refine pw_bip E (pc' := 54) rfl rfl (by decide) ?_
                  refine pw_if2 E (pc' := 133) rfl (by decide) (by omega) (by omega) (by decide) (by decide) ?_ ?_
                  · intro hc21
                    change (24 : Int) ≤ k50_5 at hc21
                    have G0 : pc_GA (pv_sdm h b e) (pv_chm h b e) 0 (pw_g gh50 164) 24 := by rw [show (24 : Int) = k50_5 by omega]; exact hx50_2
                    have G1 : pc_GA (pv_sdm h b e) (pv_chm h b e) 1 (pw_g gh50 165) 24 := by rw [show (24 : Int) = k50_5 by omega]; exact hx50_3
                    refine pw_ld E (pc' := 134) (st' := [pw_i 1]) rfl (fun _ => rfl) ?_
                    refine pw_zret E rfl (by omega) ?_
                    exact ⟨I50, E50, ⟨_, rfl, by omega, by omega, Or.inl ⟨rfl, ⟨by omega, hok, by omega, by omega⟩, G0, G1, by omega, by omega, by omega, by omega⟩⟩⟩
                  · intro hc22
                    change ¬ ((24 : Int) ≤ k50_5) at hc22
                    have o0 := pv_Ns (sd := pv_sdm h b e) (s := 0) (k := k50_5) (by omega)
                    have o1 := pv_Ns (sd := pv_sdm h b e) (s := 1) (k := k50_5) (by omega)
                    have t0 := pv_Nm24 (sd := pv_sdm h b e) (s := 0) (k := k50_5 + 1) (by omega) (by omega)
                    have t1 := pv_Nm24 (sd := pv_sdm h b e) (s := 1) (k := k50_5 + 1) (by omega) (by omega)
                    have od := pv_sdmI (h := h) (b := b) (e := e) (k := k50_5) (by omega)
                    have q1 : pw_g gh50 131 (k50_5).toNat = pw_g h 131 (k50_5).toNat := pw_Eg (c := 131) I E50 rfl rfl _
                    have qb : pw_g gh50 138 (12 * k50_5 + b).toNat = pw_g h 138 (12 * k50_5 + b).toNat := pw_Eg (c := 138) I E50 rfl rfl _
                    have qe : pw_g gh50 138 (12 * k50_5 + e).toNat = pw_g h 138 (12 * k50_5 + e).toNat := pw_Eg (c := 138) I E50 rfl rfl _
                    have q4 : pw_g gh50 132 (k50_5).toNat = pw_g h 132 (k50_5).toNat := pw_Eg (c := 132) I E50 rfl rfl _
                    have hkb : pv_hmk gh50 b k50_5 = pv_hmk h b k50_5 := pv_hmkE I E50 rfl
                    have hke : pv_hmk gh50 e k50_5 = pv_hmk h e k50_5 := pv_hmkE I E50 rfl
                    have hw4 := pw_gA (c := 132) (j := k50_5) I rfl (by decide) (by omega) (by omega)
                    refine pw_ld E (pc' := 58) (st' := [.ref 141]) rfl (fun _ => rfl) ?_
                    refine pw_ld E (pc' := 60) (st' := [pw_i k50_5, .ref 141]) rfl (fun _ => rfl) ?_
                    refine pw_ld E (pc' := 61) (st' := [pw_i b, pw_i k50_5, .ref 141]) rfl (fun _ => rfl) ?_
                    refine pw_ld E (pc' := 62) (st' := [pw_i e, pw_i b, pw_i k50_5, .ref 141]) rfl (fun _ => rfl) ?_
                    obtain ⟨f23l, f23h, -⟩ := pw_obj (c := 125) I50 rfl
                    refine pw_call (m' := 214) (As := [.ref 141, pw_i k50_5, pw_i b, pw_i e]) (rest := []) (ls'' := [some (.ref 141), some (pw_i k50_5), some (pw_i b), some (pw_i e)]) (Nat.le_trans (by decide) hd) E rfl (fun _ => pw_iV rfl rfl rfl rfl (pw_cellI f23h rfl)) (rfl : pm_ent 214 = some (4, 4, 12, 1, pmc_214)) rfl rfl (cm_214_s (pw_dp hd (by decide)) I50 (k50_5) (by omega) (by omega) (b) (by omega) (by omega) (e) (by omega) (by omega)) ?_
                    rintro u25 v24 ⟨rfl, x26, rfl, hx26a, hx26b, hx26r⟩
                    refine ⟨_, rfl, ?_⟩
                    show pw X d gh50 295 65 [some (.ref 141), some (pw_i b), some (pw_i e), some (pw_i k50_3), some (pw_i k50_4), some (pw_i k50_5)] [pw_i x26] _
                    change (x26 = 1 ∧ pw_g gh50 131 k50_5.toNat ≠ 0 ∧ pw_g gh50 138 (12 * k50_5 + b).toNat ≠ 0 ∧ pw_g gh50 138 (12 * k50_5 + e).toNat ≠ 0) ∨ (x26 = 0 ∧ ¬ (pw_g gh50 131 k50_5.toNat ≠ 0 ∧ pw_g gh50 138 (12 * k50_5 + b).toNat ≠ 0 ∧ pw_g gh50 138 (12 * k50_5 + e).toNat ≠ 0)) at hx26r
                    rcases (by omega : x26 = 1 ∨ x26 = 0) with hb27 | hb27
                    · skip
                      refine pw_if E (pc' := 98) rfl (by decide) (by omega) (by omega) ?_ ?_
                      · intro hc28
                        change x26 = (0 : Int) at hc28
                        exfalso; omega
                      · intro hc29
                        change ¬ (x26 = (0 : Int)) at hc29
                        refine pw_ld E (pc' := 69) (st' := [.ref 141]) rfl (fun _ => rfl) ?_
                        refine pw_getR (b := 148) I50 E (c := 125) (k := 11) (pc' := 72) rfl rfl rfl rfl rfl rfl rfl ?_
                        refine pw_ld E (pc' := 74) (st' := [pw_i k50_5, .ref 148]) rfl (fun _ => rfl) ?_
                        refine pw_ald2 I50 E (c := 132) (pc' := 75) rfl rfl rfl (by decide) rfl (by decide) (by omega) (by omega) rfl (fun hf30a hf30b => ?_)
                        refine pw_if E (pc' := 98) rfl (by decide) (by omega) (by omega) ?_ ?_
                        · intro hc31
                          change pw_g gh50 132 (k50_5.toNat) ≠ (0 : Int) at hc31
                          refine pw_ld E (pc' := 99) (st' := [.ref 141]) rfl (fun _ => rfl) ?_
                          refine pw_ld E (pc' := 101) (st' := [pw_i k50_5, .ref 141]) rfl (fun _ => rfl) ?_
                          refine pw_ld E (pc' := 102) (st' := [pw_i b, pw_i k50_5, .ref 141]) rfl (fun _ => rfl) ?_
                          refine pw_ld E (pc' := 103) (st' := [pw_i e, pw_i b, pw_i k50_5, .ref 141]) rfl (fun _ => rfl) ?_
                          obtain ⟨f32l, f32h, -⟩ := pw_obj (c := 125) I50 rfl
                          refine pw_call (m' := 214) (As := [.ref 141, pw_i k50_5, pw_i b, pw_i e]) (rest := []) (ls'' := [some (.ref 141), some (pw_i k50_5), some (pw_i b), some (pw_i e)]) (Nat.le_trans (by decide) hd) E rfl (fun _ => pw_iV rfl rfl rfl rfl (pw_cellI f32h rfl)) (rfl : pm_ent 214 = some (4, 4, 12, 1, pmc_214)) rfl rfl (cm_214_s (pw_dp hd (by decide)) I50 (k50_5) (by omega) (by omega) (b) (by omega) (by omega) (e) (by omega) (by omega)) ?_
                          rintro u34 v33 ⟨rfl, x35, rfl, hx35a, hx35b, hx35r⟩
                          refine ⟨_, rfl, ?_⟩
                          show pw X d gh50 295 106 [some (.ref 141), some (pw_i b), some (pw_i e), some (pw_i k50_3), some (pw_i k50_4), some (pw_i k50_5)] [pw_i x35] _
                          change (x35 = 1 ∧ pw_g gh50 131 k50_5.toNat ≠ 0 ∧ pw_g gh50 138 (12 * k50_5 + b).toNat ≠ 0 ∧ pw_g gh50 138 (12 * k50_5 + e).toNat ≠ 0) ∨ (x35 = 0 ∧ ¬ (pw_g gh50 131 k50_5.toNat ≠ 0 ∧ pw_g gh50 138 (12 * k50_5 + b).toNat ≠ 0 ∧ pw_g gh50 138 (12 * k50_5 + e).toNat ≠ 0)) at hx35r
                          rcases (by omega : x35 = 1 ∨ x35 = 0) with hb36 | hb36
                          · skip
                            refine pw_if E (pc' := 127) rfl (by decide) (by omega) (by omega) ?_ ?_
                            · intro hc37
                              change x35 = (0 : Int) at hc37
                              exfalso; omega
                            · intro hc38
                              change ¬ (x35 = (0 : Int)) at hc38
                              refine pw_ld E (pc' := 110) (st' := [.ref 141]) rfl (fun _ => rfl) ?_
                              refine pw_getR (b := 181) I50 E (c := 125) (k := 54) (pc' := 113) rfl rfl rfl rfl rfl rfl rfl ?_
                              refine pw_ld E (pc' := 115) (st' := [pw_i k50_4, .ref 181]) rfl (fun _ => rfl) ?_
                              refine pw_ld E (pc' := 116) (st' := [.ref 141, pw_i k50_4, .ref 181]) rfl (fun _ => rfl) ?_
                              refine pw_ld E (pc' := 118) (st' := [pw_i k50_5, .ref 141, pw_i k50_4, .ref 181]) rfl (fun _ => rfl) ?_
                              refine pw_ld E (pc' := 119) (st' := [pw_i b, pw_i k50_5, .ref 141, pw_i k50_4, .ref 181]) rfl (fun _ => rfl) ?_
                              refine pw_ld E (pc' := 120) (st' := [pw_i e, pw_i b, pw_i k50_5, .ref 141, pw_i k50_4, .ref 181]) rfl (fun _ => rfl) ?_
                              obtain ⟨f39l, f39h, -⟩ := pw_obj (c := 125) I50 rfl
                              refine pw_call (m' := 215) (As := [.ref 141, pw_i k50_5, pw_i b, pw_i e]) (rest := [pw_i k50_4, .ref 181]) (ls'' := [some (.ref 141), some (pw_i k50_5), some (pw_i b), some (pw_i e)]) (Nat.le_trans (by decide) hd) E rfl (fun _ => pw_iV rfl rfl rfl rfl (pw_cellI f39h rfl)) (rfl : pm_ent 215 = some (4, 4, 12, 0, pmc_215)) rfl rfl (cm_215_s (pw_dp hd (by decide)) I50 (k50_5) (by omega) (by omega) (b) (by omega) (by omega) (e) (by omega) (by omega)) ?_
                              rintro u41 v40 ⟨rfl, x42, rfl, hx42a, hx42b, hx42r⟩
                              refine ⟨_, rfl, ?_⟩
                              show pw X d gh50 295 123 [some (.ref 141), some (pw_i b), some (pw_i e), some (pw_i k50_3), some (pw_i k50_4), some (pw_i k50_5)] [pw_i x42, pw_i k50_4, .ref 181] _
                              change x42 = pv_hmk gh50 e k50_5 - pv_hmk gh50 b k50_5 at hx42r
                              have hch : x42 = pv_chm h b e (k50_5).toNat := by rw [hx42r, hkb, hke]; exact (pv_chmI (by omega)).symm
                              have hsd : (pv_sdm h b e) (k50_5).toNat = 1 := by omega
                              have o2 := o1.1 hsd
                              have o3 := o0.2 (by omega)
                              refine pw_ast0 I50 E (c := 165) (pc' := 124) rfl rfl rfl (by decide) rfl (by decide) (by omega) (by omega) rfl (by omega) (by omega) (by omega) (by omega) rfl ?_
                              intro h43I h43E
                              generalize h43w : pw_w gh50 165 (k50_4.toNat) (pw_i x42) = h43 at h43I h43E ⊢
                              have h43F := E50.tr (h43E.wk (W' := [125, 164, 165]) (by first | rfl | simp))
                              refine pw_inc E (pc' := 127) (ls' := [some (.ref 141), some (pw_i b), some (pw_i e), some (pw_i k50_3), some (pw_i (k50_4 + 1)), some (pw_i k50_5)]) rfl rfl rfl rfl ?_
                              have g1 : pc_GA (pv_sdm h b e) (pv_chm h b e) 1 (pw_g h43 165) (k50_5 + 1) := pl_GAy hx50_3 rfl (by omega) (by omega) hx50_1 hsd hch (by omega) (by omega) I50 h43w
                              have g0 : pc_GA (pv_sdm h b e) (pv_chm h b e) 0 (pw_g h43 164) (k50_5 + 1) := by rw [show pw_g h43 164 = pw_g gh50 164 from funext (fun j => by rw [← h43w]; exact pw_g_ne (by omega))]; exact pc_GA.no hx50_2 (by omega) (by omega)
                              clear od
                              refine pw_inc E (pc' := 130) (ls' := [some (.ref 141), some (pw_i b), some (pw_i e), some (pw_i k50_3), some (pw_i (k50_4 + 1)), some (pw_i (k50_5 + 1))]) rfl rfl rfl rfl ?_
                              refine pw_goto E (pc' := 50) rfl (by decide) ?_
                              have he44 : pw_gm h43 125 26 = pw_gm gh50 125 26 := by rw [← h43w]; exact pw_gm_ne (by omega)
                              have he45 : pw_gm h43 125 27 = pw_gm gh50 125 27 := by rw [← h43w]; exact pw_gm_ne (by omega)
                              have he46 : pw_gm h43 125 28 = pw_gm gh50 125 28 := by rw [← h43w]; exact pw_gm_ne (by omega)
                              have he47 : pw_gm h43 125 29 = pw_gm gh50 125 29 := by rw [← h43w]; exact pw_gm_ne (by omega)
                              exact ih50 _ (by omega) (k50_3) (k50_4 + 1) (k50_5 + 1) h43 h43I h43F (by omega) (by omega) (by omega) (by omega) (by omega) (by omega) (by omega) (by omega) g0 g1 (by omega) (by omega) (by omega) (by omega) rfl
                          · skip
                            refine pw_if E (pc' := 127) rfl (by decide) (by omega) (by omega) ?_ ?_
                            · intro hc49
                              change x35 = (0 : Int) at hc49
                              have hsd : (pv_sdm h b e) (k50_5).toNat = -1 := by omega
                              have o2 := o0.2 (by omega)
                              have o3 := o1.2 (by omega)
                              have g0 : pc_GA (pv_sdm h b e) (pv_chm h b e) 0 (pw_g gh50 164) (k50_5 + 1) := pc_GA.no hx50_2 (by omega) (by omega)
                              have g1 : pc_GA (pv_sdm h b e) (pv_chm h b e) 1 (pw_g gh50 165) (k50_5 + 1) := pc_GA.no hx50_3 (by omega) (by omega)
                              clear od
                              refine pw_inc E (pc' := 130) (ls' := [some (.ref 141), some (pw_i b), some (pw_i e), some (pw_i k50_3), some (pw_i k50_4), some (pw_i (k50_5 + 1))]) rfl rfl rfl rfl ?_
                              refine pw_goto E (pc' := 50) rfl (by decide) ?_
                              exact ih50 _ (by omega) (k50_3) (k50_4) (k50_5 + 1) gh50 I50 E50 (by omega) (by omega) (by omega) (by omega) (by omega) (by omega) (by omega) (by omega) g0 g1 (by omega) (by omega) (by omega) (by omega) rfl
                            · intro hc50
                              change ¬ (x35 = (0 : Int)) at hc50
                              exfalso; omega
                        · intro hc51
                          change ¬ (pw_g gh50 132 (k50_5.toNat) ≠ (0 : Int)) at hc51
                          refine pw_ld E (pc' := 79) (st' := [.ref 141]) rfl (fun _ => rfl) ?_
                          refine pw_getR (b := 180) I50 E (c := 125) (k := 53) (pc' := 82) rfl rfl rfl rfl rfl rfl rfl ?_
                          refine pw_ld E (pc' := 83) (st' := [pw_i k50_3, .ref 180]) rfl (fun _ => rfl) ?_
                          refine pw_ld E (pc' := 84) (st' := [.ref 141, pw_i k50_3, .ref 180]) rfl (fun _ => rfl) ?_
                          refine pw_ld E (pc' := 86) (st' := [pw_i k50_5, .ref 141, pw_i k50_3, .ref 180]) rfl (fun _ => rfl) ?_
                          refine pw_ld E (pc' := 87) (st' := [pw_i b, pw_i k50_5, .ref 141, pw_i k50_3, .ref 180]) rfl (fun _ => rfl) ?_
                          refine pw_ld E (pc' := 88) (st' := [pw_i e, pw_i b, pw_i k50_5, .ref 141, pw_i k50_3, .ref 180]) rfl (fun _ => rfl) ?_
                          obtain ⟨f52l, f52h, -⟩ := pw_obj (c := 125) I50 rfl
                          refine pw_call (m' := 215) (As := [.ref 141, pw_i k50_5, pw_i b, pw_i e]) (rest := [pw_i k50_3, .ref 180]) (ls'' := [some (.ref 141), some (pw_i k50_5), some (pw_i b), some (pw_i e)]) (Nat.le_trans (by decide) hd) E rfl (fun _ => pw_iV rfl rfl rfl rfl (pw_cellI f52h rfl)) (rfl : pm_ent 215 = some (4, 4, 12, 0, pmc_215)) rfl rfl (cm_215_s (pw_dp hd (by decide)) I50 (k50_5) (by omega) (by omega) (b) (by omega) (by omega) (e) (by omega) (by omega)) ?_
                          rintro u54 v53 ⟨rfl, x55, rfl, hx55a, hx55b, hx55r⟩
                          refine ⟨_, rfl, ?_⟩
                          show pw X d gh50 295 91 [some (.ref 141), some (pw_i b), some (pw_i e), some (pw_i k50_3), some (pw_i k50_4), some (pw_i k50_5)] [pw_i x55, pw_i k50_3, .ref 180] _
                          change x55 = pv_hmk gh50 e k50_5 - pv_hmk gh50 b k50_5 at hx55r
                          have hch : x55 = pv_chm h b e (k50_5).toNat := by rw [hx55r, hkb, hke]; exact (pv_chmI (by omega)).symm
                          have hsd : (pv_sdm h b e) (k50_5).toNat = 0 := by omega
                          have o2 := o0.1 hsd
                          have o3 := o1.2 (by omega)
                          refine pw_ast0 I50 E (c := 164) (pc' := 92) rfl rfl rfl (by decide) rfl (by decide) (by omega) (by omega) rfl (by omega) (by omega) (by omega) (by omega) rfl ?_
                          intro h56I h56E
                          generalize h56w : pw_w gh50 164 (k50_3.toNat) (pw_i x55) = h56 at h56I h56E ⊢
                          have h56F := E50.tr (h56E.wk (W' := [125, 164, 165]) (by first | rfl | simp))
                          refine pw_inc E (pc' := 95) (ls' := [some (.ref 141), some (pw_i b), some (pw_i e), some (pw_i (k50_3 + 1)), some (pw_i k50_4), some (pw_i k50_5)]) rfl rfl rfl rfl ?_
                          refine pw_goto E (pc' := 127) rfl (by decide) ?_
                          have g0 : pc_GA (pv_sdm h b e) (pv_chm h b e) 0 (pw_g h56 164) (k50_5 + 1) := pl_GAy hx50_2 rfl (by omega) (by omega) hx50_0 hsd hch (by omega) (by omega) I50 h56w
                          have g1 : pc_GA (pv_sdm h b e) (pv_chm h b e) 1 (pw_g h56 165) (k50_5 + 1) := by rw [show pw_g h56 165 = pw_g gh50 165 from funext (fun j => by rw [← h56w]; exact pw_g_ne (by omega))]; exact pc_GA.no hx50_3 (by omega) (by omega)
                          clear od
                          refine pw_inc E (pc' := 130) (ls' := [some (.ref 141), some (pw_i b), some (pw_i e), some (pw_i (k50_3 + 1)), some (pw_i k50_4), some (pw_i (k50_5 + 1))]) rfl rfl rfl rfl ?_
                          refine pw_goto E (pc' := 50) rfl (by decide) ?_
                          have he57 : pw_gm h56 125 26 = pw_gm gh50 125 26 := by rw [← h56w]; exact pw_gm_ne (by omega)
                          have he58 : pw_gm h56 125 27 = pw_gm gh50 125 27 := by rw [← h56w]; exact pw_gm_ne (by omega)
                          have he59 : pw_gm h56 125 28 = pw_gm gh50 125 28 := by rw [← h56w]; exact pw_gm_ne (by omega)
                          have he60 : pw_gm h56 125 29 = pw_gm gh50 125 29 := by rw [← h56w]; exact pw_gm_ne (by omega)
                          exact ih50 _ (by omega) (k50_3 + 1) (k50_4) (k50_5 + 1) h56 h56I h56F (by omega) (by omega) (by omega) (by omega) (by omega) (by omega) (by omega) (by omega) g0 g1 (by omega) (by omega) (by omega) (by omega) rfl
                    · skip
                      refine pw_if E (pc' := 98) rfl (by decide) (by omega) (by omega) ?_ ?_
                      · intro hc62
                        change x26 = (0 : Int) at hc62
                        refine pw_ld E (pc' := 99) (st' := [.ref 141]) rfl (fun _ => rfl) ?_
                        refine pw_ld E (pc' := 101) (st' := [pw_i k50_5, .ref 141]) rfl (fun _ => rfl) ?_
                        refine pw_ld E (pc' := 102) (st' := [pw_i b, pw_i k50_5, .ref 141]) rfl (fun _ => rfl) ?_
                        refine pw_ld E (pc' := 103) (st' := [pw_i e, pw_i b, pw_i k50_5, .ref 141]) rfl (fun _ => rfl) ?_
                        obtain ⟨f63l, f63h, -⟩ := pw_obj (c := 125) I50 rfl
                        refine pw_call (m' := 214) (As := [.ref 141, pw_i k50_5, pw_i b, pw_i e]) (rest := []) (ls'' := [some (.ref 141), some (pw_i k50_5), some (pw_i b), some (pw_i e)]) (Nat.le_trans (by decide) hd) E rfl (fun _ => pw_iV rfl rfl rfl rfl (pw_cellI f63h rfl)) (rfl : pm_ent 214 = some (4, 4, 12, 1, pmc_214)) rfl rfl (cm_214_s (pw_dp hd (by decide)) I50 (k50_5) (by omega) (by omega) (b) (by omega) (by omega) (e) (by omega) (by omega)) ?_
                        rintro u65 v64 ⟨rfl, x66, rfl, hx66a, hx66b, hx66r⟩
                        refine ⟨_, rfl, ?_⟩
                        show pw X d gh50 295 106 [some (.ref 141), some (pw_i b), some (pw_i e), some (pw_i k50_3), some (pw_i k50_4), some (pw_i k50_5)] [pw_i x66] _
                        change (x66 = 1 ∧ pw_g gh50 131 k50_5.toNat ≠ 0 ∧ pw_g gh50 138 (12 * k50_5 + b).toNat ≠ 0 ∧ pw_g gh50 138 (12 * k50_5 + e).toNat ≠ 0) ∨ (x66 = 0 ∧ ¬ (pw_g gh50 131 k50_5.toNat ≠ 0 ∧ pw_g gh50 138 (12 * k50_5 + b).toNat ≠ 0 ∧ pw_g gh50 138 (12 * k50_5 + e).toNat ≠ 0)) at hx66r
                        rcases (by omega : x66 = 1 ∨ x66 = 0) with hb67 | hb67
                        · skip
                          refine pw_if E (pc' := 127) rfl (by decide) (by omega) (by omega) ?_ ?_
                          · intro hc68
                            change x66 = (0 : Int) at hc68
                            exfalso; omega
                          · intro hc69
                            change ¬ (x66 = (0 : Int)) at hc69
                            refine pw_ld E (pc' := 110) (st' := [.ref 141]) rfl (fun _ => rfl) ?_
                            refine pw_getR (b := 181) I50 E (c := 125) (k := 54) (pc' := 113) rfl rfl rfl rfl rfl rfl rfl ?_
                            refine pw_ld E (pc' := 115) (st' := [pw_i k50_4, .ref 181]) rfl (fun _ => rfl) ?_
                            refine pw_ld E (pc' := 116) (st' := [.ref 141, pw_i k50_4, .ref 181]) rfl (fun _ => rfl) ?_
                            refine pw_ld E (pc' := 118) (st' := [pw_i k50_5, .ref 141, pw_i k50_4, .ref 181]) rfl (fun _ => rfl) ?_
                            refine pw_ld E (pc' := 119) (st' := [pw_i b, pw_i k50_5, .ref 141, pw_i k50_4, .ref 181]) rfl (fun _ => rfl) ?_
                            refine pw_ld E (pc' := 120) (st' := [pw_i e, pw_i b, pw_i k50_5, .ref 141, pw_i k50_4, .ref 181]) rfl (fun _ => rfl) ?_
                            obtain ⟨f70l, f70h, -⟩ := pw_obj (c := 125) I50 rfl
                            refine pw_call (m' := 215) (As := [.ref 141, pw_i k50_5, pw_i b, pw_i e]) (rest := [pw_i k50_4, .ref 181]) (ls'' := [some (.ref 141), some (pw_i k50_5), some (pw_i b), some (pw_i e)]) (Nat.le_trans (by decide) hd) E rfl (fun _ => pw_iV rfl rfl rfl rfl (pw_cellI f70h rfl)) (rfl : pm_ent 215 = some (4, 4, 12, 0, pmc_215)) rfl rfl (cm_215_s (pw_dp hd (by decide)) I50 (k50_5) (by omega) (by omega) (b) (by omega) (by omega) (e) (by omega) (by omega)) ?_
                            rintro u72 v71 ⟨rfl, x73, rfl, hx73a, hx73b, hx73r⟩
                            refine ⟨_, rfl, ?_⟩
                            show pw X d gh50 295 123 [some (.ref 141), some (pw_i b), some (pw_i e), some (pw_i k50_3), some (pw_i k50_4), some (pw_i k50_5)] [pw_i x73, pw_i k50_4, .ref 181] _
                            change x73 = pv_hmk gh50 e k50_5 - pv_hmk gh50 b k50_5 at hx73r
                            have hch : x73 = pv_chm h b e (k50_5).toNat := by rw [hx73r, hkb, hke]; exact (pv_chmI (by omega)).symm
                            have hsd : (pv_sdm h b e) (k50_5).toNat = 1 := by omega
                            have o2 := o1.1 hsd
                            have o3 := o0.2 (by omega)
                            refine pw_ast0 I50 E (c := 165) (pc' := 124) rfl rfl rfl (by decide) rfl (by decide) (by omega) (by omega) rfl (by omega) (by omega) (by omega) (by omega) rfl ?_
                            intro h74I h74E
                            generalize h74w : pw_w gh50 165 (k50_4.toNat) (pw_i x73) = h74 at h74I h74E ⊢
                            have h74F := E50.tr (h74E.wk (W' := [125, 164, 165]) (by first | rfl | simp))
                            refine pw_inc E (pc' := 127) (ls' := [some (.ref 141), some (pw_i b), some (pw_i e), some (pw_i k50_3), some (pw_i (k50_4 + 1)), some (pw_i k50_5)]) rfl rfl rfl rfl ?_
                            have g1 : pc_GA (pv_sdm h b e) (pv_chm h b e) 1 (pw_g h74 165) (k50_5 + 1) := pl_GAy hx50_3 rfl (by omega) (by omega) hx50_1 hsd hch (by omega) (by omega) I50 h74w
                            have g0 : pc_GA (pv_sdm h b e) (pv_chm h b e) 0 (pw_g h74 164) (k50_5 + 1) := by rw [show pw_g h74 164 = pw_g gh50 164 from funext (fun j => by rw [← h74w]; exact pw_g_ne (by omega))]; exact pc_GA.no hx50_2 (by omega) (by omega)
                            clear od
                            refine pw_inc E (pc' := 130) (ls' := [some (.ref 141), some (pw_i b), some (pw_i e), some (pw_i k50_3), some (pw_i (k50_4 + 1)), some (pw_i (k50_5 + 1))]) rfl rfl rfl rfl ?_
                            refine pw_goto E (pc' := 50) rfl (by decide) ?_
                            have he75 : pw_gm h74 125 26 = pw_gm gh50 125 26 := by rw [← h74w]; exact pw_gm_ne (by omega)
                            have he76 : pw_gm h74 125 27 = pw_gm gh50 125 27 := by rw [← h74w]; exact pw_gm_ne (by omega)
                            have he77 : pw_gm h74 125 28 = pw_gm gh50 125 28 := by rw [← h74w]; exact pw_gm_ne (by omega)
                            have he78 : pw_gm h74 125 29 = pw_gm gh50 125 29 := by rw [← h74w]; exact pw_gm_ne (by omega)
                            exact ih50 _ (by omega) (k50_3) (k50_4 + 1) (k50_5 + 1) h74 h74I h74F (by omega) (by omega) (by omega) (by omega) (by omega) (by omega) (by omega) (by omega) g0 g1 (by omega) (by omega) (by omega) (by omega) rfl
                        · skip
                          refine pw_if E (pc' := 127) rfl (by decide) (by omega) (by omega) ?_ ?_
                          · intro hc80
                            change x66 = (0 : Int) at hc80
                            have hsd : (pv_sdm h b e) (k50_5).toNat = -1 := by omega
                            have o2 := o0.2 (by omega)
                            have o3 := o1.2 (by omega)
                            have g0 : pc_GA (pv_sdm h b e) (pv_chm h b e) 0 (pw_g gh50 164) (k50_5 + 1) := pc_GA.no hx50_2 (by omega) (by omega)
                            have g1 : pc_GA (pv_sdm h b e) (pv_chm h b e) 1 (pw_g gh50 165) (k50_5 + 1) := pc_GA.no hx50_3 (by omega) (by omega)
                            clear od
                            refine pw_inc E (pc' := 130) (ls' := [some (.ref 141), some (pw_i b), some (pw_i e), some (pw_i k50_3), some (pw_i k50_4), some (pw_i (k50_5 + 1))]) rfl rfl rfl rfl ?_
                            refine pw_goto E (pc' := 50) rfl (by decide) ?_
                            exact ih50 _ (by omega) (k50_3) (k50_4) (k50_5 + 1) gh50 I50 E50 (by omega) (by omega) (by omega) (by omega) (by omega) (by omega) (by omega) (by omega) g0 g1 (by omega) (by omega) (by omega) (by omega) rfl
                          · intro hc81
                            change ¬ (x66 = (0 : Int)) at hc81
                            exfalso; omega
                      · intro hc82
                        change ¬ (x26 = (0 : Int)) at hc82
                        exfalso; omega
              exact L50 _ (0) (0) (0) h8 h8I h8F (by omega) (by omega) (by omega) (by omega) (by omega) (by omega) rfl rfl pc_GA.z pc_GA.z (by omega) (by omega) (by omega) (by omega) rfl
            · intro hc83
              change ¬ (c19 ≤ (0 : Int)) at hc83
              refine pw_ld E (pc' := 41) (st' := [pw_i 0]) rfl (fun _ => rfl) ?_
              refine pw_zret E rfl (by omega) ?_
              exact ⟨h8I, h8F, ⟨_, rfl, by omega, by omega, Or.inr ⟨rfl, fun q => by have q3 := q.2.2; omega⟩⟩⟩
      · skip
        refine pw_if E (pc' := 40) rfl (by decide) (by omega) (by omega) ?_ ?_
        · intro hc85
          change x10 = (0 : Int) at hc85
          refine pw_ld E (pc' := 41) (st' := [pw_i 0]) rfl (fun _ => rfl) ?_
          refine pw_zret E rfl (by omega) ?_
          rw [pv_lo_no] at hx10r
          exact ⟨h8I, h8F, ⟨_, rfl, by omega, by omega, Or.inr ⟨rfl, fun q => (hx10r.1.resolve_left (fun q => by have := q.1; omega)).2 q.2.1⟩⟩⟩
        · intro hc86
          change ¬ (x10 = (0 : Int)) at hc86
          exfalso; omega
  · skip
    refine pw_if E (pc' := 40) rfl (by decide) (by omega) (by omega) ?_ ?_
    · intro hc88
      change x3 = (0 : Int) at hc88
      refine pw_ld E (pc' := 41) (st' := [pw_i 0]) rfl (fun _ => rfl) ?_
      refine pw_zret E rfl (by omega) ?_
      exact ⟨I, E0, ⟨_, rfl, by omega, by omega, Or.inr ⟨rfl, fun q => by have q1 := q.1; omega⟩⟩⟩
    · intro hc89
      change ¬ (x3 = (0 : Int)) at hc89
      exfalso; omega
set_option maxHeartbeats 4000000 in
theorem cm_296_s {X : List (Nat × List Value)} {d : Nat} {h : pm_H} (hd : 2 ≤ d) (I : pw_I h) (k : Int) (hk1 : 1 ≤ k) (hk2 : k ≤ 9) (hp0 : 1 ≤ pw_gm h 125 27) (hp1 : pw_gm h 125 27 ≤ 9) (hp2 : 1 ≤ pw_gm h 125 29) (hp3 : pw_gm h 125 29 ≤ 9) (hp4 : (-48000) ≤ pw_gm h 125 26) (hp5 : pw_gm h 125 26 ≤ 48000) (hp6 : (-48000) ≤ pw_gm h 125 28) (hp7 : pw_gm h 125 28 ≤ 48000) (hp8 : ∀ j : Nat, (j : Int) < pw_gm h 125 27 → -2000 ≤ pw_g h 164 j ∧ pw_g h 164 j ≤ 2000) (hp9 : ∀ j : Nat, (j : Int) < pw_gm h 125 29 → -2000 ≤ pw_g h 165 j ∧ pw_g h 165 j ≤ 2000) : pw X d h 296 0 [some (.ref 141), some (pw_i k), none, none, none, none, none] [] (fun h' v => pw_I h' ∧ pw_E [125] h h' ∧ (pw_gm h' 125 24 = pl_O (pl_R (pw_g h 164)) (pl_R (pw_g h 165)) k 9 (pl_sg (pw_gm h 125 26 * pw_gm h 125 29 - pw_gm h 125 28 * pw_gm h 125 27)) (2 ^ (pw_gm h 125 29).toNat) (2 ^ (pw_gm h 125 27).toNat) ∧ pw_gm h' 125 25 = po_W k 9 (2 ^ (pw_gm h 125 27).toNat) * po_W k 9 (2 ^ (pw_gm h 125 29).toNat) ∧ pw_gm h' 125 26 = pw_gm h 125 26 ∧ pw_gm h' 125 27 = pw_gm h 125 27 ∧ pw_gm h' 125 28 = pw_gm h 125 28 ∧ pw_gm h' 125 29 = pw_gm h 125 29) ∧ (v = .inl none)) := by
  have E : pm_ent 296 = some (2, 7, 12, 4, pmc_296) := rfl
  have E0 : pw_E [125] h h := pw_E.rf _ _
  refine pw_ld E (pc' := 1) (st' := [.ref 141]) rfl (fun _ => rfl) ?_
  refine pw_getLM I E (c := 125) (k := 26) (pc' := 4) rfl rfl rfl rfl rfl rfl ?_
  refine pw_ld E (pc' := 5) (st' := [.ref 141, .long (Int64.ofInt (pw_gm h 125 26))]) rfl (fun _ => rfl) ?_
  refine pw_getM I E (c := 125) (k := 29) (pc' := 8) rfl rfl rfl rfl rfl rfl (fun hf1a hf1b => ?_)
  have hm2 := pw_mulS (a := pw_gm h 125 26) (b := pw_gm h 125 29) (A := 48000) (B := 9) (by omega) (by omega) (by omega) (by omega)
  refine pw_lmul E (pc' := 9) rfl rfl ?_
  refine pw_ld E (pc' := 10) (st' := [.ref 141, .long (Int64.ofInt ((pw_gm h 125 26) * (pw_gm h 125 29)))]) rfl (fun _ => rfl) ?_
  refine pw_getLM I E (c := 125) (k := 28) (pc' := 13) rfl rfl rfl rfl rfl rfl ?_
  refine pw_ld E (pc' := 14) (st' := [.ref 141, .long (Int64.ofInt (pw_gm h 125 28)), .long (Int64.ofInt ((pw_gm h 125 26) * (pw_gm h 125 29)))]) rfl (fun _ => rfl) ?_
  refine pw_getM I E (c := 125) (k := 27) (pc' := 17) rfl rfl rfl rfl rfl rfl (fun hf3a hf3b => ?_)
  have hm4 := pw_mulS (a := pw_gm h 125 28) (b := pw_gm h 125 27) (A := 48000) (B := 9) (by omega) (by omega) (by omega) (by omega)
  refine pw_lmul E (pc' := 18) rfl rfl ?_
  refine pw_lsub E (pc' := 19) rfl rfl ?_
  refine pw_call (m' := 297) (As := [.long (Int64.ofInt (((pw_gm h 125 26) * (pw_gm h 125 29)) - ((pw_gm h 125 28) * (pw_gm h 125 27))))]) (rest := []) (ls'' := [some (.long (Int64.ofInt (((pw_gm h 125 26) * (pw_gm h 125 29)) - ((pw_gm h 125 28) * (pw_gm h 125 27))))), none]) (Nat.le_trans (by decide) hd) E rfl (fun _ => pw_iS rfl rfl rfl) (rfl : pm_ent 297 = some (1, 2, 12, 0, pmc_297)) rfl rfl (cm_297_s (pw_dp hd (by decide)) I (((pw_gm h 125 26) * (pw_gm h 125 29)) - ((pw_gm h 125 28) * (pw_gm h 125 27))) (by omega) (by omega)) ?_
  rintro u6 v5 ⟨rfl, x7, rfl, hx7a, hx7b, hx7r⟩
  refine ⟨_, rfl, ?_⟩
  show pw X d h 296 22 [some (.ref 141), some (pw_i k), none, none, none, none, none] [pw_i x7] _
  change x7 = pl_sg (((pw_gm h 125 26) * (pw_gm h 125 29)) - ((pw_gm h 125 28) * (pw_gm h 125 27))) at hx7r
  have hsg : x7 = (pl_sg (pw_gm h 125 26 * pw_gm h 125 29 - pw_gm h 125 28 * pw_gm h 125 27)) := hx7r
  have e512 : pw_p2 9 = 512 := rfl
  have p0 := pw_p2_r (a := pw_gm h 125 27) (by omega) (by omega)
  have p1 := pw_p2_r (a := pw_gm h 125 29) (by omega) (by omega)
  have p9 := pw_p2_le (a := pw_gm h 125 27) (b := 9) (by omega)
  have p8 := pw_p2_le (a := pw_gm h 125 29) (b := 9) (by omega)
  refine pw_istn E (pc' := 23) (ls' := [some (.ref 141), some (pw_i k), some (pw_i x7), none, none, none, none]) rfl rfl rfl rfl ?_
  refine pw_ld E (pc' := 24) (st' := [.ref 141]) rfl (fun _ => rfl) ?_
  refine pw_ld E (pc' := 25) (st' := [.long (Int64.ofInt 0), .ref 141]) rfl (fun _ => rfl) ?_
  refine pw_putL I E (c := 125) (k := 24) (pc' := 28) rfl rfl rfl rfl rfl rfl ?_
  intro h8I h8E
  generalize h8w : pw_w h 125 24 (.long (Int64.ofInt 0)) = h8 at h8I h8E ⊢
  have h8F := E0.tr (h8E.wk (W' := [125]) (by first | rfl | simp))
  refine pw_ld E (pc' := 29) (st' := [.ref 141]) rfl (fun _ => rfl) ?_
  refine pw_ld E (pc' := 30) (st' := [.long (Int64.ofInt 0), .ref 141]) rfl (fun _ => rfl) ?_
  refine pw_putM h8I E (c := 125) (k := 25) (pc' := 33) rfl rfl rfl rfl (by omega) (by omega) (by omega) (by omega) rfl rfl ?_
  intro h9I h9E
  generalize h9w : pw_w h8 125 25 (.long (Int64.ofInt 0)) = h9 at h9I h9E ⊢
  have h9F := h8F.tr (h9E.wk (W' := [125]) (by first | rfl | simp))
  refine pw_ld E (pc' := 34) (st' := [pw_i 0]) rfl (fun _ => rfl) ?_
  refine pw_istn E (pc' := 35) (ls' := [some (.ref 141), some (pw_i k), some (pw_i x7), some (pw_i 0), none, none, none]) rfl rfl rfl rfl ?_
  have L35 : ∀ (n35 : Nat) (k35_3 : Int) (k35_4 : Option Value) (k35_6 : Option Value) (gh35 : pm_H), pw_I gh35 → pw_E [125] h gh35 → 0 ≤ k35_3 → k35_3 ≤ 512 → pw_gm gh35 125 24 = pl_O (pl_R (pw_g h 164)) (pl_R (pw_g h 165)) k 9 (pl_sg (pw_gm h 125 26 * pw_gm h 125 29 - pw_gm h 125 28 * pw_gm h 125 27)) (2 ^ (pw_gm h 125 29).toNat) (k35_3).toNat → pw_gm gh35 125 25 = po_W k 9 (k35_3).toNat * po_W k 9 (2 ^ (pw_gm h 125 29).toNat) → pw_gm gh35 125 26 = pw_gm h 125 26 → pw_gm gh35 125 27 = pw_gm h 125 27 → pw_gm gh35 125 28 = pw_gm h 125 28 → pw_gm gh35 125 29 = pw_gm h 125 29 → 0 ≤ pw_gm gh35 125 24 → pw_gm gh35 125 24 ≤ 512 * k35_3 → 0 ≤ pw_gm gh35 125 25 → pw_gm gh35 125 25 ≤ 512 * k35_3 → k35_3 ≤ pw_p2 (pw_gm h 125 27) → (512 - k35_3).toNat = n35 → pw X d gh35 296 35 [some (.ref 141), some (pw_i k), some (pw_i x7), some (pw_i k35_3), k35_4, none, k35_6] [] (fun h' v => pw_I h' ∧ pw_E [125] h h' ∧ (pw_gm h' 125 24 = pl_O (pl_R (pw_g h 164)) (pl_R (pw_g h 165)) k 9 (pl_sg (pw_gm h 125 26 * pw_gm h 125 29 - pw_gm h 125 28 * pw_gm h 125 27)) (2 ^ (pw_gm h 125 29).toNat) (2 ^ (pw_gm h 125 27).toNat) ∧ pw_gm h' 125 25 = po_W k 9 (2 ^ (pw_gm h 125 27).toNat) * po_W k 9 (2 ^ (pw_gm h 125 29).toNat) ∧ pw_gm h' 125 26 = pw_gm h 125 26 ∧ pw_gm h' 125 27 = pw_gm h 125 27 ∧ pw_gm h' 125 28 = pw_gm h 125 28 ∧ pw_gm h' 125 29 = pw_gm h 125 29) ∧ (v = .inl none)) := by
    intro n35
    induction n35 using Nat.strongRecOn with
    | ind n35 ih35 =>
      intro k35_3 k35_4 k35_6 gh35 I35 E35 k35_3a k35_3b hx35_0 hx35_1 hx35_2 hx35_3 hx35_4 hx35_5 hx35_6 hx35_7 hx35_8 hx35_9 hx35_10 hm35
      refine pw_ld E (pc' := 36) (st' := [pw_i k35_3]) rfl (fun _ => rfl) ?_
      refine pw_ld E (pc' := 37) (st' := [pw_i 1, pw_i k35_3]) rfl (fun _ => rfl) ?_
      refine pw_ld E (pc' := 38) (st' := [.ref 141, pw_i 1, pw_i k35_3]) rfl (fun _ => rfl) ?_
      refine pw_getM I35 E (c := 125) (k := 27) (pc' := 41) rfl rfl rfl rfl rfl rfl (fun hf10a hf10b => ?_)
      refine pw_l2iC E (pc' := 42) rfl rfl ?_
      have hq27 : pw_p2 (pw_gm gh35 125 27) = pw_p2 (pw_gm h 125 27) := by rw [show pw_gm gh35 125 27 = pw_gm h 125 27 by omega]
      refine pw_shlE E (pc' := 43) rfl rfl (by omega) (by omega) ?_
      have hp11 := pw_p2_r (a := pw_gm gh35 125 27) (by omega) (by omega)
      refine pw_if2 E (pc' := 143) rfl (by decide) (by omega) (by omega) (by omega) (by omega) ?_ ?_
      · intro hc12
        change pw_p2 (pw_gm gh35 125 27) ≤ k35_3 at hc12
        have hK : (k35_3).toNat = 2 ^ (pw_gm h 125 27).toNat := po_p2E (by omega) (by omega)
        rw [hK] at hx35_0 hx35_1
        refine pw_vret E rfl ?_
        exact ⟨I35, E35, ⟨by omega, by omega, by omega, by omega, by omega, by omega⟩, rfl⟩
      · intro hc13
        change ¬ (pw_p2 (pw_gm gh35 125 27) ≤ k35_3) at hc13
        have hsk : (k35_3).toNat < 2 ^ (pw_gm h 125 27).toNat := pl_lt9 (by omega) (by omega)
        have e64 : pw_g gh35 164 = pw_g h 164 := funext (fun j => pw_Eg (c := 164) I E35 rfl rfl j)
        refine pw_ld E (pc' := 47) (st' := [pw_i k35_3]) rfl (fun _ => rfl) ?_
        refine pw_call (m' := 298) (As := [pw_i k35_3]) (rest := []) (ls'' := [some (pw_i k35_3), none, none]) (Nat.le_trans (by decide) hd) E rfl (fun _ => pw_iS rfl rfl rfl) (rfl : pm_ent 298 = some (1, 3, 12, 0, pmc_298)) rfl rfl (cm_298_s (pw_dp hd (by decide)) I35 (k35_3) (by omega) (by omega)) ?_
        rintro u15 v14 ⟨rfl, x16, rfl, hx16a, hx16b, hx16r⟩
        refine ⟨_, rfl, ?_⟩
        show pw X d gh35 296 50 [some (.ref 141), some (pw_i k), some (pw_i x7), some (pw_i k35_3), k35_4, none, k35_6] [pw_i x16] _
        change x16 = (pb_n k35_3.toNat 9 : Int) at hx16r
        refine pw_ld E (pc' := 51) (st' := [pw_i k, pw_i x16]) rfl (fun _ => rfl) ?_
        refine pw_if2 E (pc' := 137) rfl (by decide) (by omega) (by omega) (by omega) (by omega) ?_ ?_
        · intro hc17
          change x16 ≠ k at hc17
          have w5 := po_Ws (q := k) (m := 9) (s := k35_3) (by omega)
          have o5 := pl_OS (S := pl_R (pw_g h 164)) (T := pl_R (pw_g h 165)) (k := k) (sgn := (pl_sg (pw_gm h 125 26 * pw_gm h 125 29 - pw_gm h 125 28 * pw_gm h 125 27))) (m := 9) (nb := 2 ^ (pw_gm h 125 29).toNat) (s := k35_3) (by omega)
          have w6 : po_W k 9 (k35_3 + 1).toNat * po_W k 9 (2 ^ (pw_gm h 125 29).toNat) = po_W k 9 (k35_3).toNat * po_W k 9 (2 ^ (pw_gm h 125 29).toNat) := by rw [w5.2 (by omega)]
          have o6 := o5.2 (by omega)
          refine pw_inc E (pc' := 140) (ls' := [some (.ref 141), some (pw_i k), some (pw_i x7), some (pw_i (k35_3 + 1)), k35_4, none, k35_6]) rfl rfl rfl rfl ?_
          refine pw_goto E (pc' := 35) rfl (by decide) ?_
          exact ih35 _ (by omega) (k35_3 + 1) k35_4 k35_6 gh35 I35 E35 (by omega) (by omega) (by omega) (by omega) (by omega) (by omega) (by omega) (by omega) (by omega) (by omega) (by omega) (by omega) (by omega) rfl
        · intro hc18
          change ¬ (x16 ≠ k) at hc18
          refine pw_ld E (pc' := 55) (st' := [.ref 141]) rfl (fun _ => rfl) ?_
          refine pw_getR (b := 180) I35 E (c := 125) (k := 53) (pc' := 58) rfl rfl rfl rfl rfl rfl rfl ?_
          refine pw_ld E (pc' := 59) (st' := [pw_i k35_3, .ref 180]) rfl (fun _ => rfl) ?_
          refine pw_call (m' := 299) (As := [.ref 180, pw_i k35_3]) (rest := []) (ls'' := [some (.ref 180), some (pw_i k35_3), none, none, none]) (Nat.le_trans (by decide) hd) E rfl (fun _ => pw_iS rfl rfl rfl) (rfl : pm_ent 299 = some (2, 5, 12, 2, pmc_299)) rfl rfl (cm_299_164s (pw_dp hd (by decide)) I35 (k35_3) (by omega) (by omega) (fun j hj => by rw [e64] ; exact pl_rowB hsk hp8 j hj)) ?_
          rintro u20 v19 ⟨rfl, x21, rfl, hx21a, hx21b, hx21r⟩
          refine ⟨_, rfl, ?_⟩
          show pw X d gh35 296 62 [some (.ref 141), some (pw_i k), some (pw_i x7), some (pw_i k35_3), k35_4, none, k35_6] [.long (Int64.ofInt x21)] _
          change x21 = pb_S (pw_g gh35 164) k35_3.toNat 9 at hx21r
          have hu : pl_R (pw_g h 164) (k35_3).toNat = x21 := by unfold pl_R; rw [hx21r, e64]
          refine pw_lst E (pc' := 64) (ls' := [some (.ref 141), some (pw_i k), some (pw_i x7), some (pw_i k35_3), some (.long (Int64.ofInt x21)), none, k35_6]) rfl rfl rfl rfl ?_
          refine pw_ld E (pc' := 65) (st' := [pw_i 0]) rfl (fun _ => rfl) ?_
          refine pw_ist E (pc' := 67) (ls' := [some (.ref 141), some (pw_i k), some (pw_i x7), some (pw_i k35_3), some (.long (Int64.ofInt x21)), none, some (pw_i 0)]) rfl rfl rfl rfl ?_
          have L67 : ∀ (n67 : Nat) (k67_6 : Int) (gh67 : pm_H), pw_I gh67 → pw_E [125] h gh67 → 0 ≤ k67_6 → k67_6 ≤ 512 → pw_gm gh67 125 24 = pl_O (pl_R (pw_g h 164)) (pl_R (pw_g h 165)) k 9 (pl_sg (pw_gm h 125 26 * pw_gm h 125 29 - pw_gm h 125 28 * pw_gm h 125 27)) (2 ^ (pw_gm h 125 29).toNat) (k35_3).toNat + pl_I (pl_R (pw_g h 165)) k 9 (pl_R (pw_g h 164) (k35_3).toNat) (pl_sg (pw_gm h 125 26 * pw_gm h 125 29 - pw_gm h 125 28 * pw_gm h 125 27)) (k67_6).toNat → pw_gm gh67 125 25 = po_W k 9 (k35_3).toNat * po_W k 9 (2 ^ (pw_gm h 125 29).toNat) + po_W k 9 (k67_6).toNat → pw_gm gh67 125 26 = pw_gm h 125 26 → pw_gm gh67 125 27 = pw_gm h 125 27 → pw_gm gh67 125 28 = pw_gm h 125 28 → pw_gm gh67 125 29 = pw_gm h 125 29 → 0 ≤ pw_gm gh67 125 24 → pw_gm gh67 125 24 ≤ 512 * k35_3 + k67_6 → 0 ≤ pw_gm gh67 125 25 → pw_gm gh67 125 25 ≤ 512 * k35_3 + k67_6 → k67_6 ≤ pw_p2 (pw_gm h 125 29) → (512 - k67_6).toNat = n67 → pw X d gh67 296 67 [some (.ref 141), some (pw_i k), some (pw_i x7), some (pw_i k35_3), some (.long (Int64.ofInt x21)), none, some (pw_i k67_6)] [] (fun h' v => pw_I h' ∧ pw_E [125] h h' ∧ (pw_gm h' 125 24 = pl_O (pl_R (pw_g h 164)) (pl_R (pw_g h 165)) k 9 (pl_sg (pw_gm h 125 26 * pw_gm h 125 29 - pw_gm h 125 28 * pw_gm h 125 27)) (2 ^ (pw_gm h 125 29).toNat) (2 ^ (pw_gm h 125 27).toNat) ∧ pw_gm h' 125 25 = po_W k 9 (2 ^ (pw_gm h 125 27).toNat) * po_W k 9 (2 ^ (pw_gm h 125 29).toNat) ∧ pw_gm h' 125 26 = pw_gm h 125 26 ∧ pw_gm h' 125 27 = pw_gm h 125 27 ∧ pw_gm h' 125 28 = pw_gm h 125 28 ∧ pw_gm h' 125 29 = pw_gm h 125 29) ∧ (v = .inl none)) := by
            intro n67
            induction n67 using Nat.strongRecOn with
            | ind n67 ih67 =>
              intro k67_6 gh67 I67 E67 k67_6a k67_6b hx67_0 hx67_1 hx67_2 hx67_3 hx67_4 hx67_5 hx67_6 hx67_7 hx67_8 hx67_9 hx67_10 hm67
              refine pw_ld E (pc' := 69) (st' := [pw_i k67_6]) rfl (fun _ => rfl) ?_
              refine pw_ld E (pc' := 70) (st' := [pw_i 1, pw_i k67_6]) rfl (fun _ => rfl) ?_
              refine pw_ld E (pc' := 71) (st' := [.ref 141, pw_i 1, pw_i k67_6]) rfl (fun _ => rfl) ?_
              refine pw_getM I67 E (c := 125) (k := 29) (pc' := 74) rfl rfl rfl rfl rfl rfl (fun hf22a hf22b => ?_)
              refine pw_l2iC E (pc' := 75) rfl rfl ?_
              have hq29 : pw_p2 (pw_gm gh67 125 29) = pw_p2 (pw_gm h 125 29) := by rw [show pw_gm gh67 125 29 = pw_gm h 125 29 by omega]
              refine pw_shlE E (pc' := 76) rfl rfl (by omega) (by omega) ?_
              have hp23 := pw_p2_r (a := pw_gm gh67 125 29) (by omega) (by omega)
              refine pw_if2 E (pc' := 137) rfl (by decide) (by omega) (by omega) (by omega) (by omega) ?_ ?_
              · intro hc24
                change pw_p2 (pw_gm gh67 125 29) ≤ k67_6 at hc24
                have w5 := po_Ws (q := k) (m := 9) (s := k35_3) (by omega)
                have o5 := pl_OS (S := pl_R (pw_g h 164)) (T := pl_R (pw_g h 165)) (k := k) (sgn := (pl_sg (pw_gm h 125 26 * pw_gm h 125 29 - pw_gm h 125 28 * pw_gm h 125 27))) (m := 9) (nb := 2 ^ (pw_gm h 125 29).toNat) (s := k35_3) (by omega)
                have hK : (k67_6).toNat = 2 ^ (pw_gm h 125 29).toNat := po_p2E (by omega) (by omega)
                rw [hK] at hx67_0 hx67_1
                have w6 := pl_pm (w := po_W k 9 (2 ^ (pw_gm h 125 29).toNat)) (w5.1 (by omega))
                have o6 := o5.1 (by omega)
                refine pw_inc E (pc' := 140) (ls' := [some (.ref 141), some (pw_i k), some (pw_i x7), some (pw_i (k35_3 + 1)), some (.long (Int64.ofInt x21)), none, some (pw_i k67_6)]) rfl rfl rfl rfl ?_
                refine pw_goto E (pc' := 35) rfl (by decide) ?_
                exact ih35 _ (by omega) (k35_3 + 1) (some (.long (Int64.ofInt x21))) (some (pw_i k67_6)) gh67 I67 E67 (by omega) (by omega) (by omega) (by omega) (by omega) (by omega) (by omega) (by omega) (by omega) (by omega) (by omega) (by omega) (by omega) rfl
              · intro hc25
                change ¬ (pw_p2 (pw_gm gh67 125 29) ≤ k67_6) at hc25
                have hsm : (k67_6).toNat < 2 ^ (pw_gm h 125 29).toNat := pl_lt9 (by omega) (by omega)
                have w1 := po_Ws (q := k) (m := 9) (s := k67_6) (by omega)
                have i1 := pl_IS (T := pl_R (pw_g h 165)) (k := k) (u := pl_R (pw_g h 164) (k35_3).toNat) (sgn := (pl_sg (pw_gm h 125 26 * pw_gm h 125 29 - pw_gm h 125 28 * pw_gm h 125 27))) (m := 9) (t := k67_6) (by omega)
                refine pw_ld E (pc' := 81) (st' := [pw_i k67_6]) rfl (fun _ => rfl) ?_
                refine pw_call (m' := 298) (As := [pw_i k67_6]) (rest := []) (ls'' := [some (pw_i k67_6), none, none]) (Nat.le_trans (by decide) hd) E rfl (fun _ => pw_iS rfl rfl rfl) (rfl : pm_ent 298 = some (1, 3, 12, 0, pmc_298)) rfl rfl (cm_298_s (pw_dp hd (by decide)) I67 (k67_6) (by omega) (by omega)) ?_
                rintro u27 v26 ⟨rfl, x28, rfl, hx28a, hx28b, hx28r⟩
                refine ⟨_, rfl, ?_⟩
                show pw X d gh67 296 84 [some (.ref 141), some (pw_i k), some (pw_i x7), some (pw_i k35_3), some (.long (Int64.ofInt x21)), none, some (pw_i k67_6)] [pw_i x28] _
                change x28 = (pb_n k67_6.toNat 9 : Int) at hx28r
                refine pw_ld E (pc' := 85) (st' := [pw_i k, pw_i x28]) rfl (fun _ => rfl) ?_
                refine pw_if2 E (pc' := 131) rfl (by decide) (by omega) (by omega) (by omega) (by omega) ?_ ?_
                · intro hc29
                  change x28 ≠ k at hc29
                  have w2 := w1.2 (by omega)
                  have i2 := i1.2.2 (by omega)
                  refine pw_inc E (pc' := 134) (ls' := [some (.ref 141), some (pw_i k), some (pw_i x7), some (pw_i k35_3), some (.long (Int64.ofInt x21)), none, some (pw_i (k67_6 + 1))]) rfl rfl rfl rfl ?_
                  refine pw_goto E (pc' := 67) rfl (by decide) ?_
                  exact ih67 _ (by omega) (k67_6 + 1) gh67 I67 E67 (by omega) (by omega) (by omega) (by omega) (by omega) (by omega) (by omega) (by omega) (by omega) (by omega) (by omega) (by omega) (by omega) rfl
                · intro hc30
                  change ¬ (x28 ≠ k) at hc30
                  refine pw_ld E (pc' := 89) (st' := [.ref 141]) rfl (fun _ => rfl) ?_
                  refine pw_ld E (pc' := 90) (st' := [.ref 141, .ref 141]) rfl (fun _ => rfl) ?_
                  refine pw_getM I67 E (c := 125) (k := 25) (pc' := 93) rfl rfl rfl rfl rfl rfl (fun hf31a hf31b => ?_)
                  refine pw_ld E (pc' := 94) (st' := [.long (Int64.ofInt 1), .long (Int64.ofInt (pw_gm gh67 125 25)), .ref 141]) rfl (fun _ => rfl) ?_
                  refine pw_ladd E (pc' := 95) rfl rfl ?_
                  refine pw_putM I67 E (c := 125) (k := 25) (pc' := 98) rfl rfl rfl rfl (by omega) (by omega) (by omega) (by omega) rfl rfl ?_
                  intro h32I h32E
                  generalize h32w : pw_w gh67 125 25 (.long (Int64.ofInt ((pw_gm gh67 125 25) + 1))) = h32 at h32I h32E ⊢
                  have h32F := E67.tr (h32E.wk (W' := [125]) (by first | rfl | simp))
                  refine pw_ld E (pc' := 99) (st' := [.ref 141]) rfl (fun _ => rfl) ?_
                  refine pw_ld E (pc' := 100) (st' := [.ref 141, .ref 141]) rfl (fun _ => rfl) ?_
                  have he33 : pw_gm h32 125 24 = pw_gm gh67 125 24 := by rw [← h32w]; exact pw_gm_ne (by omega)
                  refine pw_getLM h32I E (c := 125) (k := 24) (pc' := 103) rfl rfl rfl rfl rfl rfl ?_
                  refine pw_ld E (pc' := 105) (st' := [.long (Int64.ofInt x21), .long (Int64.ofInt (pw_gm h32 125 24)), .ref 141]) rfl (fun _ => rfl) ?_
                  refine pw_ld E (pc' := 106) (st' := [.ref 141, .long (Int64.ofInt x21), .long (Int64.ofInt (pw_gm h32 125 24)), .ref 141]) rfl (fun _ => rfl) ?_
                  refine pw_getR (b := 181) h32I E (c := 125) (k := 54) (pc' := 109) rfl rfl rfl rfl rfl rfl rfl ?_
                  refine pw_ld E (pc' := 111) (st' := [pw_i k67_6, .ref 181, .long (Int64.ofInt x21), .long (Int64.ofInt (pw_gm h32 125 24)), .ref 141]) rfl (fun _ => rfl) ?_
                  have e65 : pw_g h32 165 = pw_g h 165 := funext (fun j => pw_Eg (c := 165) I h32F rfl rfl j)
                  refine pw_call (m' := 299) (As := [.ref 181, pw_i k67_6]) (rest := [.long (Int64.ofInt x21), .long (Int64.ofInt (pw_gm h32 125 24)), .ref 141]) (ls'' := [some (.ref 181), some (pw_i k67_6), none, none, none]) (Nat.le_trans (by decide) hd) E rfl (fun _ => pw_iS rfl rfl rfl) (rfl : pm_ent 299 = some (2, 5, 12, 2, pmc_299)) rfl rfl (cm_299_165s (pw_dp hd (by decide)) h32I (k67_6) (by omega) (by omega) (fun j hj => by rw [e65] ; exact pl_rowB hsm hp9 j hj)) ?_
                  rintro u35 v34 ⟨rfl, x36, rfl, hx36a, hx36b, hx36r⟩
                  refine ⟨_, rfl, ?_⟩
                  show pw X d h32 296 114 [some (.ref 141), some (pw_i k), some (pw_i x7), some (pw_i k35_3), some (.long (Int64.ofInt x21)), none, some (pw_i k67_6)] [.long (Int64.ofInt x36), .long (Int64.ofInt x21), .long (Int64.ofInt (pw_gm h32 125 24)), .ref 141] _
                  change x36 = pb_S (pw_g h32 165) k67_6.toNat 9 at hx36r
                  refine pw_lsub E (pc' := 115) rfl rfl ?_
                  refine pw_call (m' := 297) (As := [.long (Int64.ofInt (x21 - x36))]) (rest := [.long (Int64.ofInt (pw_gm h32 125 24)), .ref 141]) (ls'' := [some (.long (Int64.ofInt (x21 - x36))), none]) (Nat.le_trans (by decide) hd) E rfl (fun _ => pw_iS rfl rfl rfl) (rfl : pm_ent 297 = some (1, 2, 12, 0, pmc_297)) rfl rfl (cm_297_s (pw_dp hd (by decide)) h32I (x21 - x36) (by omega) (by omega)) ?_
                  rintro u38 v37 ⟨rfl, x39, rfl, hx39a, hx39b, hx39r⟩
                  refine ⟨_, rfl, ?_⟩
                  show pw X d h32 296 118 [some (.ref 141), some (pw_i k), some (pw_i x7), some (pw_i k35_3), some (.long (Int64.ofInt x21)), none, some (pw_i k67_6)] [pw_i x39, .long (Int64.ofInt (pw_gm h32 125 24)), .ref 141] _
                  change x39 = pl_sg (x21 - x36) at hx39r
                  have hv : pl_R (pw_g h 165) (k67_6).toNat = x36 := by unfold pl_R; rw [hx36r, e65]
                  rw [hu, hv, ← hsg, ← hx39r] at i1
                  refine pw_ld E (pc' := 119) (st' := [pw_i x7, pw_i x39, .long (Int64.ofInt (pw_gm h32 125 24)), .ref 141]) rfl (fun _ => rfl) ?_
                  refine pw_if2 E (pc' := 126) rfl (by decide) (by omega) (by omega) (by omega) (by omega) ?_ ?_
                  · intro hc40
                    change x39 ≠ x7 at hc40
                    refine pw_ld E (pc' := 127) (st' := [.long (Int64.ofInt 0), .long (Int64.ofInt (pw_gm h32 125 24)), .ref 141]) rfl (fun _ => rfl) ?_
                    refine pw_ladd E (pc' := 128) rfl rfl ?_
                    refine pw_putL h32I E (c := 125) (k := 24) (pc' := 131) rfl rfl rfl rfl rfl rfl ?_
                    intro h41I h41E
                    generalize h41w : pw_w h32 125 24 (.long (Int64.ofInt ((pw_gm h32 125 24) + 0))) = h41 at h41I h41E ⊢
                    have h41F := h32F.tr (h41E.wk (W' := [125]) (by first | rfl | simp))
                    have w2 := w1.1 (by omega)
                    have i2 := i1.2.1 (by omega)
                    rw [← hu, hsg] at i2
                    refine pw_inc E (pc' := 134) (ls' := [some (.ref 141), some (pw_i k), some (pw_i x7), some (pw_i k35_3), some (.long (Int64.ofInt x21)), none, some (pw_i (k67_6 + 1))]) rfl rfl rfl rfl ?_
                    refine pw_goto E (pc' := 67) rfl (by decide) ?_
                    have he42 : pw_gm h41 125 24 = (pw_gm h32 125 24) + 0 := by rw [← h41w]; exact pw_gm_eq (c := 125) (k := 24) h32I rfl rfl (by omega) (by omega)
                    have he43 : pw_gm h41 125 25 = pw_gm h32 125 25 := by rw [← h41w]; exact pw_gm_ne (by omega)
                    have he44 : pw_gm h32 125 25 = (pw_gm gh67 125 25) + 1 := by rw [← h32w]; exact pw_gm_eq (c := 125) (k := 25) I67 rfl rfl (by omega) (by omega)
                    have he45 : pw_gm h41 125 26 = pw_gm h32 125 26 := by rw [← h41w]; exact pw_gm_ne (by omega)
                    have he46 : pw_gm h32 125 26 = pw_gm gh67 125 26 := by rw [← h32w]; exact pw_gm_ne (by omega)
                    have he47 : pw_gm h41 125 27 = pw_gm h32 125 27 := by rw [← h41w]; exact pw_gm_ne (by omega)
                    have he48 : pw_gm h32 125 27 = pw_gm gh67 125 27 := by rw [← h32w]; exact pw_gm_ne (by omega)
                    have he49 : pw_gm h41 125 28 = pw_gm h32 125 28 := by rw [← h41w]; exact pw_gm_ne (by omega)
                    have he50 : pw_gm h32 125 28 = pw_gm gh67 125 28 := by rw [← h32w]; exact pw_gm_ne (by omega)
                    have he51 : pw_gm h41 125 29 = pw_gm h32 125 29 := by rw [← h41w]; exact pw_gm_ne (by omega)
                    have he52 : pw_gm h32 125 29 = pw_gm gh67 125 29 := by rw [← h32w]; exact pw_gm_ne (by omega)
                    exact ih67 _ (by omega) (k67_6 + 1) h41 h41I h41F (by omega) (by omega) (by omega) (by omega) (by omega) (by omega) (by omega) (by omega) (by omega) (by omega) (by omega) (by omega) (by omega) rfl
                  · intro hc53
                    change ¬ (x39 ≠ x7) at hc53
                    refine pw_ld E (pc' := 123) (st' := [.long (Int64.ofInt 1), .long (Int64.ofInt (pw_gm h32 125 24)), .ref 141]) rfl (fun _ => rfl) ?_
                    refine pw_goto E (pc' := 127) rfl (by decide) ?_
                    refine pw_ladd E (pc' := 128) rfl rfl ?_
                    refine pw_putL h32I E (c := 125) (k := 24) (pc' := 131) rfl rfl rfl rfl rfl rfl ?_
                    intro h54I h54E
                    generalize h54w : pw_w h32 125 24 (.long (Int64.ofInt ((pw_gm h32 125 24) + 1))) = h54 at h54I h54E ⊢
                    have h54F := h32F.tr (h54E.wk (W' := [125]) (by first | rfl | simp))
                    have w2 := w1.1 (by omega)
                    have i2 := i1.1 (by omega) (by omega)
                    rw [← hu, hsg] at i2
                    refine pw_inc E (pc' := 134) (ls' := [some (.ref 141), some (pw_i k), some (pw_i x7), some (pw_i k35_3), some (.long (Int64.ofInt x21)), none, some (pw_i (k67_6 + 1))]) rfl rfl rfl rfl ?_
                    refine pw_goto E (pc' := 67) rfl (by decide) ?_
                    have he55 : pw_gm h54 125 24 = (pw_gm h32 125 24) + 1 := by rw [← h54w]; exact pw_gm_eq (c := 125) (k := 24) h32I rfl rfl (by omega) (by omega)
                    have he56 : pw_gm h54 125 25 = pw_gm h32 125 25 := by rw [← h54w]; exact pw_gm_ne (by omega)
                    have he57 : pw_gm h32 125 25 = (pw_gm gh67 125 25) + 1 := by rw [← h32w]; exact pw_gm_eq (c := 125) (k := 25) I67 rfl rfl (by omega) (by omega)
                    have he58 : pw_gm h54 125 26 = pw_gm h32 125 26 := by rw [← h54w]; exact pw_gm_ne (by omega)
                    have he59 : pw_gm h32 125 26 = pw_gm gh67 125 26 := by rw [← h32w]; exact pw_gm_ne (by omega)
                    have he60 : pw_gm h54 125 27 = pw_gm h32 125 27 := by rw [← h54w]; exact pw_gm_ne (by omega)
                    have he61 : pw_gm h32 125 27 = pw_gm gh67 125 27 := by rw [← h32w]; exact pw_gm_ne (by omega)
                    have he62 : pw_gm h54 125 28 = pw_gm h32 125 28 := by rw [← h54w]; exact pw_gm_ne (by omega)
                    have he63 : pw_gm h32 125 28 = pw_gm gh67 125 28 := by rw [← h32w]; exact pw_gm_ne (by omega)
                    have he64 : pw_gm h54 125 29 = pw_gm h32 125 29 := by rw [← h54w]; exact pw_gm_ne (by omega)
                    have he65 : pw_gm h32 125 29 = pw_gm gh67 125 29 := by rw [← h32w]; exact pw_gm_ne (by omega)
                    exact ih67 _ (by omega) (k67_6 + 1) h54 h54I h54F (by omega) (by omega) (by omega) (by omega) (by omega) (by omega) (by omega) (by omega) (by omega) (by omega) (by omega) (by omega) (by omega) rfl
          exact L67 _ (0) gh35 I35 E35 (by omega) (by omega) (by show _ = _ + (0 : Int); omega) (by show _ = _ + (0 : Int); omega) (by omega) (by omega) (by omega) (by omega) (by omega) (by omega) (by omega) (by omega) (by omega) rfl
  have he66 : pw_gm h9 125 24 = pw_gm h8 125 24 := by rw [← h9w]; exact pw_gm_ne (by omega)
  have he67 : pw_gm h8 125 24 = 0 := by rw [← h8w]; exact pw_gm_eq (c := 125) (k := 24) I rfl rfl (by omega) (by omega)
  have he68 : pw_gm h9 125 25 = 0 := by rw [← h9w]; exact pw_gm_eq (c := 125) (k := 25) h8I rfl rfl (by omega) (by omega)
  have he69 : pw_gm h9 125 26 = pw_gm h8 125 26 := by rw [← h9w]; exact pw_gm_ne (by omega)
  have he70 : pw_gm h8 125 26 = pw_gm h 125 26 := by rw [← h8w]; exact pw_gm_ne (by omega)
  have he71 : pw_gm h9 125 27 = pw_gm h8 125 27 := by rw [← h9w]; exact pw_gm_ne (by omega)
  have he72 : pw_gm h8 125 27 = pw_gm h 125 27 := by rw [← h8w]; exact pw_gm_ne (by omega)
  have he73 : pw_gm h9 125 28 = pw_gm h8 125 28 := by rw [← h9w]; exact pw_gm_ne (by omega)
  have he74 : pw_gm h8 125 28 = pw_gm h 125 28 := by rw [← h8w]; exact pw_gm_ne (by omega)
  have he75 : pw_gm h9 125 29 = pw_gm h8 125 29 := by rw [← h9w]; exact pw_gm_ne (by omega)
  have he76 : pw_gm h8 125 29 = pw_gm h 125 29 := by rw [← h8w]; exact pw_gm_ne (by omega)
  exact L35 _ (0) (none) (none) h9 h9I h9F (by omega) (by omega) (by show _ = (0 : Int); omega) (by show _ = (0 : Int) * _; rw [Int.zero_mul]; omega) (by omega) (by omega) (by omega) (by omega) (by omega) (by omega) (by omega) (by omega) (by omega) rfl
end
section
/-! needed of the model, exactly -/
set_option maxHeartbeats 4000000 in
theorem cm_300_s {X : List (Nat × List Value)} {d : Nat} {h : pm_H} (hd : 6 ≤ d) (I : pw_I h) (b : Int) (hb1 : (-2147483648) ≤ b) (hb2 : b ≤ 2147483647) (e : Int) (he1 : (-2147483648) ≤ e) (he2 : e ≤ 2147483647) (p : Int) (hp1 : (-2147483648) ≤ p) (hp2 : p ≤ 2147483647) : pw X d h 300 0 [some (.ref 141), some (pw_i b), some (pw_i e), some (pw_i p), none] [] (fun h' v => pw_I h' ∧ pw_E [125, 164, 165] h h' ∧ ∃ a : Int, v = .inl (some (pw_i a)) ∧ (-1) ≤ a ∧ a ≤ 10 ∧ (((0 ≤ b ∧ b ≤ 11 ∧ 0 ≤ e ∧ e ≤ 11 ∧ b ≠ e ∧ 1 ≤ p ∧ p ≤ 100) ∧ 1 ≤ a ∧ pl_gd (pv_sdm h b e) (pv_chm h b e) p a ∧ ∀ j : Int, 1 ≤ j → j < a → ¬ pl_gd (pv_sdm h b e) (pv_chm h b e) p j) ∨ (a = -1 ∧ (¬ (0 ≤ b ∧ b ≤ 11 ∧ 0 ≤ e ∧ e ≤ 11 ∧ b ≠ e ∧ 1 ≤ p ∧ p ≤ 100) ∨ ∀ j : Int, 1 ≤ j → ¬ pl_gd (pv_sdm h b e) (pv_chm h b e) p j)))) := by
  have E : pm_ent 300 = some (4, 5, 12, 0, pmc_300) := rfl
  have E0 : pw_E [125, 164, 165] h h := pw_E.rf _ _
  refine pw_ld E (pc' := 1) (st' := [.ref 141]) rfl (fun _ => rfl) ?_
  refine pw_ld E (pc' := 2) (st' := [pw_i 0, .ref 141]) rfl (fun _ => rfl) ?_
  refine pw_putI I E (c := 125) (k := 0) (pc' := 5) rfl rfl rfl rfl (by omega) (by omega) (by omega) (by omega) rfl rfl ?_
  intro h1I h1E
  generalize h1w : pw_w h 125 0 (pw_i 0) = h1 at h1I h1E ⊢
  have h1F := E0.tr (h1E.wk (W' := [125, 164, 165]) (by first | rfl | simp))
  refine pw_ld E (pc' := 6) (st' := [pw_i p]) rfl (fun _ => rfl) ?_
  refine pw_ld E (pc' := 7) (st' := [pw_i 1, pw_i p]) rfl (fun _ => rfl) ?_
  refine pw_bip E (pc' := 9) rfl rfl (by decide) ?_
  refine pw_call (m' := 202) (As := [pw_i p, pw_i 1, pw_i 100]) (rest := []) (ls'' := [some (pw_i p), some (pw_i 1), some (pw_i 100)]) (Nat.le_trans (by decide) hd) E rfl (fun _ => pw_iS rfl rfl rfl) (rfl : pm_ent 202 = some (3, 3, 12, 1, pmc_202)) rfl rfl (cm_202 (pw_dp hd (by decide)) h1I (p) (by omega) (by omega) (1) (by omega) (by omega) (100) (by omega) (by omega)) ?_
  rintro u3 v2 ⟨rfl, x4, rfl, hx4a, hx4b, hx4r⟩
  refine ⟨_, rfl, ?_⟩
  show pw X d h1 300 12 [some (.ref 141), some (pw_i b), some (pw_i e), some (pw_i p), none] [pw_i x4] _
  change (x4 = 1 ∧ 1 ≤ p ∧ p ≤ 100) ∨ (x4 = 0 ∧ ¬ (1 ≤ p ∧ p ≤ 100)) at hx4r
  rcases (by omega : x4 = 1 ∨ x4 = 0) with hb5 | hb5
  · skip
    refine pw_if E (pc' := 24) rfl (by decide) (by omega) (by omega) ?_ ?_
    · intro hc6
      change x4 = (0 : Int) at hc6
      exfalso; omega
    · intro hc7
      change ¬ (x4 = (0 : Int)) at hc7
      refine pw_ld E (pc' := 16) (st' := [.ref 141]) rfl (fun _ => rfl) ?_
      refine pw_ld E (pc' := 17) (st' := [pw_i b, .ref 141]) rfl (fun _ => rfl) ?_
      refine pw_ld E (pc' := 18) (st' := [pw_i e, pw_i b, .ref 141]) rfl (fun _ => rfl) ?_
      obtain ⟨eS0, eC0⟩ := po_sdmE (b := b) (e := e) I h1F rfl
      obtain ⟨f8l, f8h, -⟩ := pw_obj (c := 125) h1I rfl
      refine pw_call (m' := 295) (As := [.ref 141, pw_i b, pw_i e]) (rest := []) (ls'' := [some (.ref 141), some (pw_i b), some (pw_i e), none, none, none]) (Nat.le_trans (by decide) hd) E rfl (fun _ => pw_iV rfl rfl rfl rfl (pw_cellI f8h rfl)) (rfl : pm_ent 295 = some (3, 6, 12, 1, pmc_295)) rfl rfl (cm_295_s (pw_dp hd (by decide)) h1I (b) (by omega) (by omega) (e) (by omega) (by omega)) ?_
      rintro h9 v10 ⟨h9I, h9E, x11, rfl, hx11a, hx11b, hx11r⟩
      refine ⟨_, rfl, ?_⟩
      have h9F := h1F.tr (h9E.wk (W' := [125, 164, 165]) (by first | rfl | simp))
      show pw X d h9 300 21 [some (.ref 141), some (pw_i b), some (pw_i e), some (pw_i p), none] [pw_i x11] _
      change (x11 = 1 ∧ ((0 ≤ b ∧ b ≤ 11 ∧ 0 ≤ e ∧ e ≤ 11 ∧ b ≠ e) ∧ pv_OK (pv_sdm h1 b e) ∧ pv_N (pv_sdm h1 b e) 0 24 ≤ 9 ∧ pv_N (pv_sdm h1 b e) 1 24 ≤ 9) ∧ pc_GA (pv_sdm h1 b e) (pv_chm h1 b e) 0 (pw_g h9 164) 24 ∧ pc_GA (pv_sdm h1 b e) (pv_chm h1 b e) 1 (pw_g h9 165) 24 ∧ pw_gm h9 125 26 = pv_S (pv_sdm h1 b e) (pv_chm h1 b e) 0 24 ∧ pw_gm h9 125 27 = pv_N (pv_sdm h1 b e) 0 24 ∧ pw_gm h9 125 28 = pv_S (pv_sdm h1 b e) (pv_chm h1 b e) 1 24 ∧ pw_gm h9 125 29 = pv_N (pv_sdm h1 b e) 1 24) ∨ (x11 = 0 ∧ ¬ ((0 ≤ b ∧ b ≤ 11 ∧ 0 ≤ e ∧ e ≤ 11 ∧ b ≠ e) ∧ pv_OK (pv_sdm h1 b e) ∧ pv_N (pv_sdm h1 b e) 0 24 ≤ 9 ∧ pv_N (pv_sdm h1 b e) 1 24 ≤ 9)) at hx11r
      rcases (by omega : x11 = 1 ∨ x11 = 0) with hb12 | hb12
      · skip
        refine pw_if E (pc' := 26) rfl (by decide) (by omega) (by omega) ?_ ?_
        · intro hc13
          change x11 ≠ (0 : Int) at hc13
          rw [eS0, eC0] at hx11r
          obtain ⟨-, ⟨hTM, hok, hn9, hm9⟩, G0, G1, f26, f27, f28, f29⟩ := hx11r.resolve_right (fun q => by have := q.1; omega)
          have ho1 := hok.1
          have ho2 := hok.2
          have hS0 := pv_SB (sd := pv_sdm h b e) (ch := pv_chm h b e) (s := 0) 24 (fun k hk _ => pv_chmB I (by omega) (by omega) (by omega) (by omega) k hk)
          have hS1 := pv_SB (sd := pv_sdm h b e) (ch := pv_chm h b e) (s := 1) 24 (fun k hk _ => pv_chmB I (by omega) (by omega) (by omega) (by omega) k hk)
          have hxm := fun k : Int => pl_XM (k := k) G0 G1 hn9 hm9
          have hUu : pw_gm h9 125 26 * pw_gm h9 125 29 - pw_gm h9 125 28 * pw_gm h9 125 27 = pv_U (pv_sdm h b e) (pv_chm h b e) := by rw [f26, f27, f28, f29]; rfl
          refine pw_ld E (pc' := 27) (st' := [pw_i 1]) rfl (fun _ => rfl) ?_
          refine pw_ist E (pc' := 29) (ls' := [some (.ref 141), some (pw_i b), some (pw_i e), some (pw_i p), some (pw_i 1)]) rfl rfl rfl rfl ?_
          have L29 : ∀ (n29 : Nat) (k29_4 : Int) (gh29 : pm_H), pw_I gh29 → pw_E [125, 164, 165] h gh29 → 1 ≤ k29_4 → k29_4 ≤ 10 → ((∀ j : Int, 1 ≤ j → j < k29_4 → ¬ pl_gd (pv_sdm h b e) (pv_chm h b e) p j)) → pc_GA (pv_sdm h b e) (pv_chm h b e) 0 (pw_g gh29 164) 24 → pc_GA (pv_sdm h b e) (pv_chm h b e) 1 (pw_g gh29 165) 24 → pw_gm gh29 125 26 = pv_S (pv_sdm h b e) (pv_chm h b e) 0 24 → pw_gm gh29 125 27 = pv_N (pv_sdm h b e) 0 24 → pw_gm gh29 125 28 = pv_S (pv_sdm h b e) (pv_chm h b e) 1 24 → pw_gm gh29 125 29 = pv_N (pv_sdm h b e) 1 24 → (10 - k29_4).toNat = n29 → pw X d gh29 300 29 [some (.ref 141), some (pw_i b), some (pw_i e), some (pw_i p), some (pw_i k29_4)] [] (fun h' v => pw_I h' ∧ pw_E [125, 164, 165] h h' ∧ ∃ a : Int, v = .inl (some (pw_i a)) ∧ (-1) ≤ a ∧ a ≤ 10 ∧ (((0 ≤ b ∧ b ≤ 11 ∧ 0 ≤ e ∧ e ≤ 11 ∧ b ≠ e ∧ 1 ≤ p ∧ p ≤ 100) ∧ 1 ≤ a ∧ pl_gd (pv_sdm h b e) (pv_chm h b e) p a ∧ ∀ j : Int, 1 ≤ j → j < a → ¬ pl_gd (pv_sdm h b e) (pv_chm h b e) p j) ∨ (a = -1 ∧ (¬ (0 ≤ b ∧ b ≤ 11 ∧ 0 ≤ e ∧ e ≤ 11 ∧ b ≠ e ∧ 1 ≤ p ∧ p ≤ 100) ∨ ∀ j : Int, 1 ≤ j → ¬ pl_gd (pv_sdm h b e) (pv_chm h b e) p j)))) := by
            intro n29
            induction n29 using Nat.strongRecOn with
            | ind n29 ih29 =>
              intro k29_4 gh29 I29 E29 k29_4a k29_4b hx29_0 hx29_1 hx29_2 hx29_3 hx29_4 hx29_5 hx29_6 hm29
              refine pw_ld E (pc' := 31) (st' := [pw_i k29_4]) rfl (fun _ => rfl) ?_
              refine pw_i2l E (pc' := 32) rfl rfl (by omega) (by omega) ?_
              refine pw_ld E (pc' := 33) (st' := [.ref 141, .long (Int64.ofInt k29_4)]) rfl (fun _ => rfl) ?_
              refine pw_getM I29 E (c := 125) (k := 27) (pc' := 36) rfl rfl rfl rfl rfl rfl (fun hf14a hf14b => ?_)
              refine pw_lcmpC E (pc' := 37) rfl rfl (by omega) (by omega) (by omega) (by omega) (fun c15 hc15 => ?_)
              refine pw_if E (pc' := 85) rfl (by decide) (by omega) (by omega) ?_ ?_
              · intro hc16
                change (0 : Int) < c15 at hc16
                refine pw_ld E (pc' := 86) (st' := [pw_i ((-1))]) rfl (fun _ => rfl) ?_
                refine pw_iret E rfl ?_
                exact ⟨I29, E29, ⟨_, rfl, by omega, by omega, Or.inr ⟨rfl, Or.inr (fun j hj q => hx29_0 j hj (by obtain ⟨o1, o2, o3, o4⟩ := q.1; omega) q)⟩⟩⟩
              · intro hc17
                change ¬ ((0 : Int) < c15) at hc17
                refine pw_ld E (pc' := 42) (st' := [pw_i k29_4]) rfl (fun _ => rfl) ?_
                refine pw_i2l E (pc' := 43) rfl rfl (by omega) (by omega) ?_
                refine pw_ld E (pc' := 44) (st' := [.ref 141, .long (Int64.ofInt k29_4)]) rfl (fun _ => rfl) ?_
                refine pw_getM I29 E (c := 125) (k := 29) (pc' := 47) rfl rfl rfl rfl rfl rfl (fun hf18a hf18b => ?_)
                refine pw_lcmpC E (pc' := 48) rfl rfl (by omega) (by omega) (by omega) (by omega) (fun c19 hc19 => ?_)
                refine pw_if E (pc' := 85) rfl (by decide) (by omega) (by omega) ?_ ?_
                · intro hc20
                  change (0 : Int) < c19 at hc20
                  refine pw_ld E (pc' := 86) (st' := [pw_i ((-1))]) rfl (fun _ => rfl) ?_
                  refine pw_iret E rfl ?_
                  exact ⟨I29, E29, ⟨_, rfl, by omega, by omega, Or.inr ⟨rfl, Or.inr (fun j hj q => hx29_0 j hj (by obtain ⟨o1, o2, o3, o4⟩ := q.1; omega) q)⟩⟩⟩
                · intro hc21
                  change ¬ ((0 : Int) < c19) at hc21
                  have G0 := hx29_1
                  have G1 := hx29_2
                  have f26 := hx29_3
                  have f27 := hx29_4
                  have f28 := hx29_5
                  have f29 := hx29_6
                  have hxm := fun k : Int => pl_XM (k := k) G0 G1 hn9 hm9
                  have hUu : pw_gm gh29 125 26 * pw_gm gh29 125 29 - pw_gm gh29 125 28 * pw_gm gh29 125 27 = pv_U (pv_sdm h b e) (pv_chm h b e) := by rw [f26, f27, f28, f29]; rfl
                  refine pw_ld E (pc' := 52) (st' := [.ref 141]) rfl (fun _ => rfl) ?_
                  refine pw_ld E (pc' := 54) (st' := [pw_i k29_4, .ref 141]) rfl (fun _ => rfl) ?_
                  obtain ⟨f22l, f22h, -⟩ := pw_obj (c := 125) I29 rfl
                  refine pw_call (m' := 296) (As := [.ref 141, pw_i k29_4]) (rest := []) (ls'' := [some (.ref 141), some (pw_i k29_4), none, none, none, none, none]) (Nat.le_trans (by decide) hd) E rfl (fun _ => pw_iV rfl rfl rfl rfl (pw_cellI f22h rfl)) (rfl : pm_ent 296 = some (2, 7, 12, 4, pmc_296)) rfl rfl (cm_296_s (pw_dp hd (by decide)) I29 (k29_4) (by omega) (by omega) (by omega) (by omega) (by omega) (by omega) (by omega) (by omega) (by omega) (by omega) (fun j hj => pc_GA.rowB G0 (fun k hk _ => pv_chmB I (by omega) (by omega) (by omega) (by omega) k hk) j (by omega)) (fun j hj => pc_GA.rowB G1 (fun k hk _ => pv_chmB I (by omega) (by omega) (by omega) (by omega) k hk) j (by omega))) ?_
                  rintro h23 v24 ⟨h23I, h23E, hqfl, rfl⟩
                  refine ⟨_, rfl, ?_⟩
                  have h23F := E29.tr (h23E.wk (W' := [125, 164, 165]) (by first | rfl | simp))
                  show pw X d h23 300 57 [some (.ref 141), some (pw_i b), some (pw_i e), some (pw_i p), some (pw_i k29_4)] [] _
                  have e4 : pw_gm h23 125 24 = pl_X (pv_sdm h b e) (pv_chm h b e) k29_4 := by have z := hqfl.1; rw [hUu, f27, f29] at z; exact z.trans (hxm k29_4).1
                  have e5 : pw_gm h23 125 25 = pl_Y (pv_sdm h b e) k29_4 := by have z := hqfl.2.1; rw [f27, f29] at z; exact z.trans (hxm k29_4).2
                  have hXB := pl_XB (sd := pv_sdm h b e) (ch := pv_chm h b e) (k := k29_4) (by omega) (by omega) (by omega) (by omega) (by omega)
                  have G0 : pc_GA (pv_sdm h b e) (pv_chm h b e) 0 (pw_g h23 164) 24 := by rw [show pw_g h23 164 = pw_g gh29 164 from funext (fun j => pw_Eg (c := 164) I29 h23E rfl rfl j)]; exact G0
                  have G1 : pc_GA (pv_sdm h b e) (pv_chm h b e) 1 (pw_g h23 165) 24 := by rw [show pw_g h23 165 = pw_g gh29 165 from funext (fun j => pw_Eg (c := 165) I29 h23E rfl rfl j)]; exact G1
                  have hok : pl_ok (pv_sdm h b e) k29_4 := ⟨by omega, by omega, by omega, by omega⟩
                  refine pw_ld E (pc' := 60) (st' := [.long (Int64.ofInt 100)]) rfl (fun _ => rfl) ?_
                  refine pw_ld E (pc' := 61) (st' := [.ref 141, .long (Int64.ofInt 100)]) rfl (fun _ => rfl) ?_
                  refine pw_getLM h23I E (c := 125) (k := 24) (pc' := 64) rfl rfl rfl rfl rfl rfl ?_
                  refine pw_lmul E (pc' := 65) rfl rfl ?_
                  refine pw_ld E (pc' := 66) (st' := [pw_i p, .long (Int64.ofInt (100 * (pw_gm h23 125 24)))]) rfl (fun _ => rfl) ?_
                  refine pw_i2l E (pc' := 67) rfl rfl (by omega) (by omega) ?_
                  refine pw_ld E (pc' := 68) (st' := [.ref 141, .long (Int64.ofInt p), .long (Int64.ofInt (100 * (pw_gm h23 125 24)))]) rfl (fun _ => rfl) ?_
                  refine pw_getM h23I E (c := 125) (k := 25) (pc' := 71) rfl rfl rfl rfl rfl rfl (fun hf25a hf25b => ?_)
                  have hm26 := pw_mulB (a := p) (b := pw_gm h23 125 25) (A := 100) (B := 262144) (by omega) (by omega) (by omega) (by omega)
                  refine pw_lmul E (pc' := 72) rfl rfl ?_
                  refine pw_lcmpC E (pc' := 73) rfl rfl (by omega) (by omega) (by omega) (by omega) (fun c27 hc27 => ?_)
                  refine pw_if E (pc' := 79) rfl (by decide) (by omega) (by omega) ?_ ?_
                  · intro hc28
                    change c27 < (0 : Int) at hc28
                    have hgd : ¬ pl_gd (pv_sdm h b e) (pv_chm h b e) p k29_4 := fun q => by have q2 := q.2; rw [← e4, ← e5] at q2; omega
                    refine pw_inc E (pc' := 82) (ls' := [some (.ref 141), some (pw_i b), some (pw_i e), some (pw_i p), some (pw_i (k29_4 + 1))]) rfl rfl rfl rfl ?_
                    refine pw_goto E (pc' := 29) rfl (by decide) ?_
                    exact ih29 _ (by omega) (k29_4 + 1) h23 h23I h23F (by omega) (by omega) (pl_nx hx29_0 hgd) G0 G1 (by omega) (by omega) (by omega) (by omega) rfl
                  · intro hc29
                    change ¬ (c27 < (0 : Int)) at hc29
                    have hgd :  pl_gd (pv_sdm h b e) (pv_chm h b e) p k29_4 := ⟨hok, by rw [← e4, ← e5]; omega⟩
                    refine pw_ld E (pc' := 78) (st' := [pw_i k29_4]) rfl (fun _ => rfl) ?_
                    refine pw_iret E rfl ?_
                    exact ⟨h23I, h23F, ⟨_, rfl, by omega, by omega, Or.inl ⟨by omega, by omega, hgd, hx29_0⟩⟩⟩
          exact L29 _ (1) h9 h9I h9F (by omega) (by omega) (fun j h1 h2 => by omega) G0 G1 (by omega) (by omega) (by omega) (by omega) rfl
        · intro hc30
          change ¬ (x11 ≠ (0 : Int)) at hc30
          exfalso; omega
      · skip
        refine pw_if E (pc' := 26) rfl (by decide) (by omega) (by omega) ?_ ?_
        · intro hc32
          change x11 ≠ (0 : Int) at hc32
          exfalso; omega
        · intro hc33
          change ¬ (x11 ≠ (0 : Int)) at hc33
          refine pw_ld E (pc' := 25) (st' := [pw_i ((-1))]) rfl (fun _ => rfl) ?_
          refine pw_iret E rfl ?_
          rw [eS0, eC0] at hx11r
          have hn := (hx11r.resolve_left (fun q => by have := q.1; omega)).2
          have hcs : ¬ (0 ≤ b ∧ b ≤ 11 ∧ 0 ≤ e ∧ e ≤ 11 ∧ b ≠ e ∧ 1 ≤ p ∧ p ≤ 100) ∨ (0 ≤ b ∧ b ≤ 11 ∧ 0 ≤ e ∧ e ≤ 11 ∧ b ≠ e) := by omega
          exact ⟨h9I, h9F, ⟨_, rfl, by omega, by omega, Or.inr ⟨rfl, hcs.imp id (fun c j hj q => by obtain ⟨o1, o2, o3, o4⟩ := q.1; exact hn ⟨c, ⟨by omega, by omega⟩, o1, o2⟩)⟩⟩⟩
  · skip
    refine pw_if E (pc' := 24) rfl (by decide) (by omega) (by omega) ?_ ?_
    · intro hc35
      change x4 = (0 : Int) at hc35
      refine pw_ld E (pc' := 25) (st' := [pw_i ((-1))]) rfl (fun _ => rfl) ?_
      refine pw_iret E rfl ?_
      exact ⟨h1I, h1F, ⟨_, rfl, by omega, by omega, Or.inr ⟨rfl, Or.inl (by omega)⟩⟩⟩
    · intro hc36
      change ¬ (x4 = (0 : Int)) at hc36
      exfalso; omega
end
section
/-! a new row of ints: Arrays.copyOf, Script.copyOf -/
/-- as pw_E, but one cell of at most 1000 may be new -/
def pw_G (W : List Nat) (h h' : pm_H) : Prop := (h.length ≤ h'.length ∧ h'.length ≤ h.length + 1 ∧ pm_slt h ≤ pm_slt h' ∧ pm_slt h' ≤ pm_slt h + 1000) ∧ ∀ c : Nat, c < h.length → c ∉ W → h'[c]? = h[c]?
theorem pw_E.G {W : List Nat} {a b : pm_H} (h1 : pw_E W a b) : pw_G W a b := ⟨⟨by rw [h1.1.1]; exact Nat.le_refl _, by rw [h1.1.1]; omega, by rw [h1.1.2]; exact Nat.le_refl _, by rw [h1.1.2]; omega⟩, h1.2.1⟩
theorem pw_G.tE {W : List Nat} {a b c : pm_H} (h1 : pw_G W a b) (h2 : pw_E W b c) : pw_G W a c := ⟨by rw [h2.1.1, h2.1.2]; exact h1.1, fun q hq hn => (h2.2.1 q (Nat.lt_of_lt_of_le hq h1.1.1) hn).trans (h1.2 q hq hn)⟩
theorem pw_E.tG {W : List Nat} {a b c : pm_H} (h1 : pw_E W a b) (h2 : pw_G W b c) : pw_G W a c := ⟨by rw [← h1.1.1, ← h1.1.2]; exact h2.1, fun q hq hn => (h2.2 q (by rw [h1.1.1]; exact hq) hn).trans (h1.2.1 q hq hn)⟩
theorem pw_G.wk {W W' : List Nat} {a b : pm_H} (h1 : pw_G W a b) (hs : W.all (fun c => W'.contains c) = true) : pw_G W' a b := ⟨h1.1, fun q hq hn => h1.2 q hq fun hm => hn (by
  have := List.all_eq_true.mp hs q hm
  exact List.contains_iff_mem.mp this)⟩
theorem pw_Gg {h h' : pm_H} {c : Nat} {W : List Nat} {s : pw_S} (I : pw_I h) (E : pw_G W h h') (hs : pw_T[c]? = some s) (hn : W.contains c = false) (k : Nat) : pw_at h' c k = pw_at h c k := by
  obtain ⟨q, h1, -⟩ := I.1 c _ hs
  unfold pw_at
  rw [E.2 c (List.getElem?_eq_some_iff.mp h1).1 (fun hm => by
    have := List.contains_iff_mem.mpr hm
    rw [hn] at this; cases this)]
theorem pw_vk_push {h : pm_H} {x : pm_C} {sp : pw_F} {v : Value} (hv : pw_vk h sp v) : pw_vk (h ++ [x]) sp v := by
  obtain ⟨k, lo, hi⟩ := sp
  have key : (∃ (c : Nat) (l : List Value), v = .ref (16 + c) ∧ h[c]? = some (.inl (0, l)) ∧ l.length ≤ 1000 ∧ pw_ints l) → ∃ (c2 : Nat) (l : List Value), v = .ref (16 + c2) ∧ (h ++ [x])[c2]? = some (.inl (0, l)) ∧ l.length ≤ 1000 ∧ pw_ints l := by
    rintro ⟨c2, l, e1, e2, e3⟩
    exact ⟨c2, l, e1, by rw [List.getElem?_append_left (List.getElem?_eq_some_iff.mp e2).1]; exact e2, e3⟩
  match k, hv with
  | 0, hv => exact hv
  | 1, hv => exact hv
  | 2, hv => exact hv
  | 4, hv => exact hv
  | 3, hv => exact key hv
  | k + 5, hv => exact key hv
theorem pw_ok_push {h : pm_H} {y : pm_C} {s : pw_S} {x : pm_C} (hv : pw_ok h s x) : pw_ok (h ++ [y]) s x := by
  match s, x, hv with
  | .inl _, .inl _, hv => exact hv
  | .inr (ci, sps), .inr (cj, fs), hv => exact ⟨hv.1, hv.2.1, fun k sp v g1 g2 => pw_vk_push (hv.2.2 k sp v g1 g2)⟩
theorem pw_scv_mono {n m : Nat} (hn : n ≤ m) {v : Value} (h : pm_scv n v = true) : pm_scv m v = true := by
  cases v with
  | ref a => exact Nat.blt_eq.mpr (Nat.lt_of_lt_of_le (Nat.blt_eq.mp h) hn)
  | _ => rfl
theorem pw_scc_mono {n m : Nat} (hn : n ≤ m) {c : pm_C} (h : pm_scc n c = true) : pm_scc m c = true := by
  match c, h with
  | .inl q, h =>
    have h : cond (Nat.blt q.1 5) true (pm_all (pm_scv n) q.2) = true := h
    show cond (Nat.blt q.1 5) true (pm_all (pm_scv m) q.2) = true
    cases hb : Nat.blt q.1 5 with
    | true => rfl
    | false =>
      rw [hb] at h
      have h : pm_all (pm_scv n) q.2 = true := h
      show pm_all (pm_scv m) q.2 = true
      rw [pm_all_eq, List.all_eq_true] at h ⊢
      exact fun v hv => pw_scv_mono hn (h v hv)
  | .inr q, h =>
    have h : pm_all (pm_scv n) q.2 = true := h
    show pm_all (pm_scv m) q.2 = true
    rw [pm_all_eq, List.all_eq_true] at h ⊢
    exact fun v hv => pw_scv_mono hn (h v hv)
theorem pw_I_push {h : pm_H} {t : Nat} {l : List Value} (ht : Nat.blt t 5 = true) (I : pw_I h) : pw_I (h ++ [.inl (t, l)]) := by
  refine ⟨fun c s hT => ?_, ?_⟩
  · obtain ⟨q, h1, h2⟩ := I.1 c s hT
    exact ⟨q, by rw [List.getElem?_append_left (List.getElem?_eq_some_iff.mp h1).1]; exact h1, pw_ok_push h2⟩
  · have h1 := I.2
    unfold pm_scH at h1 ⊢
    rw [pm_all_eq, List.all_eq_true, pm_len_eq] at h1 ⊢
    intro c hc
    rw [List.length_append]
    rcases List.mem_append.mp hc with g | g
    · exact pw_scc_mono (by simp) (h1 c g)
    · rw [List.mem_singleton.mp g]
      show cond (Nat.blt t 5) true _ = true
      rw [ht]; rfl
section Pn
variable {X : List (Nat × List Value)} {d : Nat} {h : pm_H} {m pc pc' len na nl own rt : Nat} {C : pm_T (Instr × Nat)} {ls : pm_L} {r : List Value} {Q : pm_H → (Option Value ⊕ Unit) → Prop} {i : Instr}
theorem pw_newi {n : Int} (he : pm_ent m = some (na, nl, own, rt, C)) (hq : pm_get C pc = some (.newarray .int, len)) (hc : pc + len = pc') (h0 : 0 ≤ n) (h1 : n ≤ 60000) (H : pw X d (h ++ [.inl (0, List.replicate n.toNat (.int 0))]) m pc' ls (.ref (16 + h.length) :: r) Q) : pw X d h m pc ls (pw_i n :: r) Q := by
  subst hc
  refine pw_go he hq (fun ih => ?_) H
  show cond (decide (Int32.ofInt n < 0)) none (cond (Nat.ble (Int32.ofInt n).toNatClampNeg 60000) (cond (Nat.blt 0 5) (pm_fn (pm_len h) fun z => pm_fn (pc + len) fun q => ih d (h ++ [.inl (0, pm_rep (Int32.ofInt n).toNatClampNeg (.int 0))]) m q ls (.ref (16 + z) :: r)) none) none) = _
  rw [decide_eq_false (pw_neg h0 (by omega)), cond_false, pw_clamp h0 (by omega), Nat.ble_eq_true_of_le (by omega), cond_true, pm_fn_eq, pm_fn_eq, pm_len_eq, pm_rep_eq]
  rfl
theorem pw_cpyN {ix c q a a2 : Nat} {l l' : List Value} {n : Int} (he : pm_ent m = some (na, nl, own, rt, C)) (hq : pm_get C pc = some (.invokestatic ix, len)) (hl : pm_get (pm_lnk own) ix = some (12, 5, 0, 0)) (e1 : h[c]? = some (.inl (0, l))) (f1 : h[q]? = some (.inl (0, l'))) (h0 : 0 ≤ n) (h1 : n ≤ 60000) (hn : n.toNat ≤ l.length) (hn2 : n.toNat = l'.length) (ha : 16 + c = a) (ha2 : 16 + q = a2) (h8 : pm_cat8 r = true)
    (H : pw X d (h.set q (.inl (0, l.take n.toNat))) m (pc + 3) ls r Q) : pw X d h m pc ls (pw_i n :: pw_i 0 :: .ref a2 :: pw_i 0 :: .ref a :: r) Q := by
  refine pw_go he hq (fun ih => ?_) H
  refine (pw_prim0 (len := len) hl rfl).trans ?_
  show (match pm_row X h a, pm_cell h a2 with
    | some (t, l), some (.inl (t', l')) => cond (Nat.beq t 0 && (Nat.beq t' 0 && (Nat.ble 16 a && (!decide (Int32.ofInt n < 0) && (!decide (Int32.ofInt 0 < 0) && (!decide (Int32.ofInt 0 < 0) && (Nat.ble ((Int32.ofInt 0).toNatClampNeg + (Int32.ofInt n).toNatClampNeg) (pm_len l) && Nat.ble ((Int32.ofInt 0).toNatClampNeg + (Int32.ofInt n).toNatClampNeg) (pm_len l'))))))))
      (cond (pm_cat8 r) (pm_fn (pc + 3) fun q => ih d (pm_set h (a2 - 16) (.inl (0, pm_cpy l l' (Int32.ofInt 0).toNatClampNeg (Int32.ofInt 0).toNatClampNeg (Int32.ofInt n).toNatClampNeg))) m q ls r) none) none
    | _, _ => none) = _
  rw [pw_rowI e1 ha, pw_cellI f1 ha2]
  dsimp only
  have en : (Int32.ofInt n).toNatClampNeg = n.toNat := pw_clamp h0 (by omega)
  have e0 : (Int32.ofInt 0).toNatClampNeg = 0 := rfl
  rw [en, e0, decide_eq_false (pw_neg h0 (by omega)), pm_len_eq, pm_len_eq]
  have hb : (Nat.beq 0 0 && (Nat.beq 0 0 && (Nat.ble 16 a && (!false && (!decide (Int32.ofInt 0 < 0) && (!decide (Int32.ofInt 0 < 0) && (Nat.ble (0 + n.toNat) l.length && Nat.ble (0 + n.toNat) l'.length))))))) = true := by
    rw [Nat.ble_eq_true_of_le (show 16 ≤ a by omega), Nat.ble_eq_true_of_le (show 0 + n.toNat ≤ l.length by omega), Nat.ble_eq_true_of_le (show 0 + n.toNat ≤ l'.length by omega)]
    rfl
  have ea : a2 - 16 = q := by omega
  rw [hb, cond_true, h8, cond_true, pm_fn_eq, ea, pm_set_eq]
  have ec : pm_cpy l l' 0 0 n.toNat = l.take n.toNat := by
    unfold pm_cpy
    rw [List.take_zero, List.drop_zero, List.nil_append, List.drop_of_length_le (by omega), List.append_nil]
  rw [ec]
end Pn
theorem cm_325 {X : List (Nat × List Value)} {d : Nat} {h : pm_H} {c : Nat} {l : List Value} {n : Int} (e1 : h[c]? = some (.inl (0, l))) (hl : l.length = 1000) (h0 : 0 ≤ n) (h1 : n ≤ 999) : pw X d h 325 0 [some (.ref (16 + c)), some (pw_i n), none] [] (fun h' v => h' = h ++ [.inl (0, l.take n.toNat)] ∧ v = .inl (some (.ref (16 + h.length)))) := by
  have E : pm_ent 325 = some (2, 3, 14, 3, pmc_325) := rfl
  have hc : c < h.length := (List.getElem?_eq_some_iff.mp e1).1
  refine pw_ld E (pc' := 1) (st' := [pw_i n]) rfl (fun _ => rfl) ?_
  refine pw_ld E (pc' := 2) (st' := [.ref (16 + c), pw_i n]) rfl (fun _ => rfl) ?_
  refine pw_alen E (pc' := 3) rfl (pw_rowI e1 rfl) rfl rfl ?_
  rw [hl]
  refine pw_if2 E (pc' := 14) rfl (by decide) (by omega) (by omega) (by decide) (by decide) ?_ ?_
  · intro _
    refine pw_ld E (pc' := 15) (st' := [pw_i n]) rfl (fun _ => rfl) ?_
    refine pw_newi E (pc' := 17) rfl rfl h0 (by omega) ?_
    have e2 : (h ++ [.inl (0, List.replicate n.toNat (.int 0))])[c]? = some (.inl (0, l)) := by rw [List.getElem?_append_left hc]; exact e1
    have e3 : (h ++ [.inl (0, List.replicate n.toNat (.int 0))])[h.length]? = some (.inl (0, List.replicate n.toNat (.int 0))) := by rw [List.getElem?_append_right (Nat.le_refl _), Nat.sub_self]; rfl
    generalize hg : h ++ [.inl (0, List.replicate n.toNat (Value.int 0))] = g at e2 e3 ⊢
    refine pw_astn E (pc' := 18) (ls' := [some (.ref (16 + c)), some (pw_i n), some (.ref (16 + h.length))]) rfl rfl rfl rfl ?_
    refine pw_ld E (pc' := 19) (st' := [.ref (16 + c)]) rfl (fun _ => rfl) ?_
    refine pw_ld E (pc' := 20) (st' := [pw_i 0, .ref (16 + c)]) rfl (fun _ => rfl) ?_
    refine pw_ld E (pc' := 21) (st' := [.ref (16 + h.length), pw_i 0, .ref (16 + c)]) rfl (fun _ => rfl) ?_
    refine pw_ld E (pc' := 22) (st' := [pw_i 0, .ref (16 + h.length), pw_i 0, .ref (16 + c)]) rfl (fun _ => rfl) ?_
    refine pw_ld E (pc' := 23) (st' := [.ref (16 + c), pw_i 0, .ref (16 + h.length), pw_i 0, .ref (16 + c)]) rfl (fun _ => rfl) ?_
    refine pw_alen E (pc' := 24) rfl (pw_rowI e2 rfl) rfl rfl ?_
    rw [hl]
    refine pw_ld E (pc' := 25) (st' := [pw_i n, pw_i (1000 : Nat), pw_i 0, .ref (16 + h.length), pw_i 0, .ref (16 + c)]) rfl (fun _ => rfl) ?_
    refine pw_min E rfl rfl (by decide) (by decide) (by omega) (by omega) rfl ?_
    rw [show min ((1000 : Nat) : Int) n = n by omega]
    refine pw_cpyN (q := h.length) E rfl rfl e2 e3 h0 (by omega) (by omega) List.length_replicate.symm rfl rfl rfl ?_
    refine pw_ld E (pc' := 32) (st' := [.ref (16 + h.length)]) rfl (fun _ => rfl) ?_
    refine pw_aret E rfl ⟨?_, rfl⟩
    rw [← hg, List.set_append_right _ _ (Nat.le_refl _), Nat.sub_self]
    rfl
  · intro hn
    exact absurd (show pw_c .ne n ((1000 : Nat) : Int) from (by show n ≠ ((1000 : Nat) : Int); omega)) hn
theorem pw_scq {h : pm_H} {q : Nat} {x : pm_C} (hq : h[q]? = some x) : pm_scv (16 + h.length) (.ref (16 + q)) = true := by
  have := (List.getElem?_eq_some_iff.mp hq).1
  exact Nat.blt_eq.mpr (by omega)
set_option maxHeartbeats 4000000 in
theorem cm_73t {X : List (Nat × List Value)} {d : Nat} {h : pm_H} (I : pw_I h) (c : Nat) (hc : pw_Sc c) (q0 : Nat) (q0l : List Value) (q0h : h[q0]? = some (.inl (0, q0l))) (q0n : q0l.length ≤ 1000) (q0i : pw_ints q0l) : pw X d h 73 12 [some (.ref (16 + c)), some (.ref 46), none] [.ref (16 + q0), .ref (16 + c)] (fun h' v => pw_I h' ∧ pw_E [c, c + 1, c + 2, c + 3, c + 4] h h' ∧ v = .inl none) := by
  have E : pm_ent 73 = some (2, 3, 7, 4, pmc_73) := rfl
  have E0 : pw_E [c, c + 1, c + 2, c + 3, c + 4] h h := pw_E.rf _ _
  refine pw_put0 I E (c := c) (k := 0) (pc' := 15) rfl rfl (pw_Sc_o hc) rfl ⟨q0, q0l, rfl, q0h, q0n, q0i⟩ (pw_scq q0h) rfl rfl rfl ?_
  intro h1I h1E
  generalize h1w : pw_w h c 0 (.ref (16 + q0)) = h1 at h1I h1E ⊢
  have h1F := E0.tr (h1E.wk (W' := [c, c + 1, c + 2, c + 3, c + 4]) (by first | rfl | simp))
  refine pw_ld E (pc' := 16) (st' := [.ref (16 + c)]) rfl (fun _ => rfl) ?_
  refine pw_ld E (pc' := 17) (st' := [.ref 46, .ref (16 + c)]) rfl (fun _ => rfl) ?_
  refine pw_getI h1I E (c := 30) (k := 1) (pc' := 20) rfl rfl rfl rfl rfl rfl (fun hf2a hf2b hf2c hf2d => ?_)
  refine pw_putI h1I E (c := c) (k := 1) (pc' := 23) rfl rfl (pw_Sc_o hc) rfl (by omega) (by omega) (by omega) (by omega) rfl rfl ?_
  intro h3I h3E
  generalize h3w : pw_w h1 c 1 (pw_i (pw_g h1 30 1)) = h3 at h3I h3E ⊢
  have h3F := h1F.tr (h3E.wk (W' := [c, c + 1, c + 2, c + 3, c + 4]) (by first | rfl | simp))
  refine pw_ld E (pc' := 24) (st' := [pw_i 0]) rfl (fun _ => rfl) ?_
  refine pw_istn E (pc' := 25) (ls' := [some (.ref (16 + c)), some (.ref 46), some (pw_i 0)]) rfl rfl rfl rfl ?_
  have L25 : ∀ (n25 : Nat) (k25_2 : Int) (h25 : pm_H), pw_I h25 → pw_E [c, c + 1, c + 2, c + 3, c + 4] h h25 → 0 ≤ k25_2 → k25_2 ≤ 4 → (4 - k25_2).toNat = n25 → pw X d h25 73 25 [some (.ref (16 + c)), some (.ref 46), some (pw_i k25_2)] [] (fun h' v => pw_I h' ∧ pw_E [c, c + 1, c + 2, c + 3, c + 4] h h' ∧ v = .inl none) := by
    intro n25
    induction n25 using Nat.strongRecOn with
    | ind n25 ih25 =>
      intro k25_2 h25 I25 E25 k25_2a k25_2b hm25
      refine pw_ld E (pc' := 26) (st' := [pw_i k25_2]) rfl (fun _ => rfl) ?_
      refine pw_ld E (pc' := 27) (st' := [pw_i 4, pw_i k25_2]) rfl (fun _ => rfl) ?_
      refine pw_if2 E (pc' := 84) rfl (by decide) (by omega) (by omega) (by decide) (by decide) ?_ ?_
      · intro hc4
        have hc4 : (4 : Int) ≤ k25_2 := hc4
        refine pw_vret E rfl ?_
        exact ⟨I25, E25, rfl⟩
      · intro hc5
        have hc5 : ¬ ((4 : Int) ≤ k25_2) := hc5
        refine pw_ld E (pc' := 31) (st' := [.ref (16 + c)]) rfl (fun _ => rfl) ?_
        refine pw_getR (b := 16 + (c + 1)) I25 E (c := c) (k := 2) (pc' := 34) rfl rfl (pw_Sc_o hc) rfl rfl rfl rfl ?_
        refine pw_ld E (pc' := 35) (st' := [pw_i k25_2, .ref (16 + (c + 1))]) rfl (fun _ => rfl) ?_
        refine pw_ld E (pc' := 36) (st' := [.ref 46, pw_i k25_2, .ref (16 + (c + 1))]) rfl (fun _ => rfl) ?_
        refine pw_getR (b := 47) I25 E (c := 30) (k := 2) (pc' := 39) rfl rfl rfl rfl rfl rfl rfl ?_
        refine pw_ld E (pc' := 40) (st' := [pw_i k25_2, .ref 47, pw_i k25_2, .ref (16 + (c + 1))]) rfl (fun _ => rfl) ?_
        refine pw_ald I25 E (c := 31) (pc' := 41) rfl rfl rfl (by decide) rfl (by decide) (by omega) (by omega) rfl (fun hf6a hf6b hf6c hf6d => ?_)
        refine pw_ast0 I25 E (c := c + 1) (pc' := 42) rfl rfl (pw_Sc_1 hc) (by decide) rfl (by decide) (by omega) (by omega) (pw_b1 (by omega) (by omega)) (by omega) (by omega) (by omega) (by omega) rfl ?_
        intro h7I h7E
        generalize h7w : pw_w h25 (c + 1) (k25_2.toNat) (pw_i (pw_g h25 31 (k25_2.toNat))) = h7 at h7I h7E ⊢
        have h7F := E25.tr (h7E.wk (W' := [c, c + 1, c + 2, c + 3, c + 4]) (by first | rfl | simp))
        refine pw_ld E (pc' := 43) (st' := [.ref (16 + c)]) rfl (fun _ => rfl) ?_
        refine pw_getR (b := 16 + (c + 2)) h7I E (c := c) (k := 3) (pc' := 46) rfl rfl (pw_Sc_o hc) rfl rfl rfl rfl ?_
        refine pw_ld E (pc' := 47) (st' := [pw_i k25_2, .ref (16 + (c + 2))]) rfl (fun _ => rfl) ?_
        refine pw_ld E (pc' := 48) (st' := [.ref 46, pw_i k25_2, .ref (16 + (c + 2))]) rfl (fun _ => rfl) ?_
        refine pw_getR (b := 48) h7I E (c := 30) (k := 3) (pc' := 51) rfl rfl rfl rfl rfl rfl rfl ?_
        refine pw_ld E (pc' := 52) (st' := [pw_i k25_2, .ref 48, pw_i k25_2, .ref (16 + (c + 2))]) rfl (fun _ => rfl) ?_
        refine pw_ald h7I E (c := 32) (pc' := 53) rfl rfl rfl (by decide) rfl (by decide) (by omega) (by omega) rfl (fun hf8a hf8b hf8c hf8d => ?_)
        refine pw_ast0 h7I E (c := c + 2) (pc' := 54) rfl rfl (pw_Sc_2 hc) (by decide) rfl (by decide) (by omega) (by omega) rfl (by omega) (by omega) (by omega) (by omega) rfl ?_
        intro h9I h9E
        generalize h9w : pw_w h7 (c + 2) (k25_2.toNat) (pw_i (pw_g h7 32 (k25_2.toNat))) = h9 at h9I h9E ⊢
        have h9F := h7F.tr (h9E.wk (W' := [c, c + 1, c + 2, c + 3, c + 4]) (by first | rfl | simp))
        refine pw_ld E (pc' := 55) (st' := [.ref (16 + c)]) rfl (fun _ => rfl) ?_
        refine pw_getR (b := 16 + (c + 3)) h9I E (c := c) (k := 4) (pc' := 58) rfl rfl (pw_Sc_o hc) rfl rfl rfl rfl ?_
        refine pw_ld E (pc' := 59) (st' := [pw_i k25_2, .ref (16 + (c + 3))]) rfl (fun _ => rfl) ?_
        refine pw_ld E (pc' := 60) (st' := [.ref 46, pw_i k25_2, .ref (16 + (c + 3))]) rfl (fun _ => rfl) ?_
        refine pw_getR (b := 49) h9I E (c := 30) (k := 4) (pc' := 63) rfl rfl rfl rfl rfl rfl rfl ?_
        refine pw_ld E (pc' := 64) (st' := [pw_i k25_2, .ref 49, pw_i k25_2, .ref (16 + (c + 3))]) rfl (fun _ => rfl) ?_
        refine pw_ald h9I E (c := 33) (pc' := 65) rfl rfl rfl (by decide) rfl (by decide) (by omega) (by omega) rfl (fun hf10a hf10b hf10c hf10d => ?_)
        refine pw_ast0 h9I E (c := c + 3) (pc' := 66) rfl rfl (pw_Sc_3 hc) (by decide) rfl (by decide) (by omega) (by omega) rfl (by omega) (by omega) (by omega) (by omega) rfl ?_
        intro h11I h11E
        generalize h11w : pw_w h9 (c + 3) (k25_2.toNat) (pw_i (pw_g h9 33 (k25_2.toNat))) = h11 at h11I h11E ⊢
        have h11F := h9F.tr (h11E.wk (W' := [c, c + 1, c + 2, c + 3, c + 4]) (by first | rfl | simp))
        refine pw_ld E (pc' := 67) (st' := [.ref (16 + c)]) rfl (fun _ => rfl) ?_
        refine pw_getR (b := 16 + (c + 4)) h11I E (c := c) (k := 5) (pc' := 70) rfl rfl (pw_Sc_o hc) rfl rfl rfl rfl ?_
        refine pw_ld E (pc' := 71) (st' := [pw_i k25_2, .ref (16 + (c + 4))]) rfl (fun _ => rfl) ?_
        refine pw_ld E (pc' := 72) (st' := [.ref 46, pw_i k25_2, .ref (16 + (c + 4))]) rfl (fun _ => rfl) ?_
        refine pw_getR (b := 50) h11I E (c := 30) (k := 5) (pc' := 75) rfl rfl rfl rfl rfl rfl rfl ?_
        refine pw_ld E (pc' := 76) (st' := [pw_i k25_2, .ref 50, pw_i k25_2, .ref (16 + (c + 4))]) rfl (fun _ => rfl) ?_
        refine pw_ald h11I E (c := 34) (pc' := 77) rfl rfl rfl (by decide) rfl (by decide) (by omega) (by omega) rfl (fun hf12a hf12b hf12c hf12d => ?_)
        refine pw_ast0 h11I E (c := c + 4) (pc' := 78) rfl rfl (pw_Sc_4 hc) (by decide) rfl (by decide) (by omega) (by omega) rfl (by omega) (by omega) (by omega) (by omega) rfl ?_
        intro h13I h13E
        generalize h13w : pw_w h11 (c + 4) (k25_2.toNat) (pw_i (pw_g h11 34 (k25_2.toNat))) = h13 at h13I h13E ⊢
        have h13F := h11F.tr (h13E.wk (W' := [c, c + 1, c + 2, c + 3, c + 4]) (by first | rfl | simp))
        refine pw_inc E (pc' := 81) (ls' := [some (.ref (16 + c)), some (.ref 46), some (pw_i (k25_2 + 1))]) rfl rfl rfl rfl ?_
        refine pw_goto E (pc' := 25) rfl (by decide) ?_
        exact ih25 _ (by omega) (k25_2 + 1) h13 h13I h13F (by omega) (by omega)  rfl
  exact L25 _ (0) h3 h3I h3F (by omega) (by omega)  rfl
theorem pw_G_push {W : List Nat} {h : pm_H} {l : List Value} (hl : l.length ≤ 1000) : pw_G W h (h ++ [.inl (0, l)]) := by
  refine ⟨⟨by simp, by simp, by rw [pm_slt_push]; omega, by rw [pm_slt_push]; show pm_slt h + l.length ≤ _; omega⟩, fun c hc _ => List.getElem?_append_left hc⟩
theorem cm_73 {X : List (Nat × List Value)} {d : Nat} {h : pm_H} (hd : 2 ≤ d) (I : pw_I h) (c : Nat) (hc : pw_Sc c) (hlen : pw_g h 30 1 ≤ 999) : pw X d h 73 0 [some (.ref (16 + c)), some (.ref 46), none] [] (fun h' v => pw_I h' ∧ pw_G [c, c + 1, c + 2, c + 3, c + 4] h h' ∧ v = .inl none) := by
  have E : pm_ent 73 = some (2, 3, 7, 4, pmc_73) := rfl
  refine pw_ld E (pc' := 1) (st' := [.ref (16 + c)]) rfl (fun _ => rfl) ?_
  refine pw_ld E (pc' := 2) (st' := [.ref 46, .ref (16 + c)]) rfl (fun _ => rfl) ?_
  refine pw_getR (b := 52) I E (c := 30) (k := 0) (pc' := 5) rfl rfl rfl rfl rfl rfl rfl ?_
  refine pw_ld E (pc' := 6) (st' := [.ref 46, .ref 52, .ref (16 + c)]) rfl (fun _ => rfl) ?_
  refine pw_getI I E (c := 30) (k := 1) (pc' := 9) rfl rfl rfl rfl rfl rfl (fun ha hb _ _ => ?_)
  obtain ⟨l, e1, e2, e3⟩ := pw_arr (c := 36) I rfl
  refine pw_call (m' := 325) (As := [.ref 52, pw_i (pw_g h 30 1)]) (rest := [.ref (16 + c)]) (ls'' := [some (.ref (16 + 36)), some (pw_i (pw_g h 30 1)), none]) (by omega) E rfl (fun _ => pw_iS rfl rfl rfl) (rfl : pm_ent 325 = some (2, 3, 14, 3, pmc_325)) rfl rfl (cm_325 e1 e2 ha hlen) ?_
  rintro h1 v1 ⟨rfl, rfl⟩
  refine ⟨_, rfl, ?_⟩
  have ht : (l.take (pw_g h 30 1).toNat).length ≤ 1000 := by rw [List.length_take]; omega
  refine pw_mono (cm_73t (pw_I_push rfl I) c hc h.length (l.take (pw_g h 30 1).toNat) (by rw [List.getElem?_append_right (Nat.le_refl _), Nat.sub_self]; rfl) ht (fun j v hv => ?_)) ?_
  · rw [List.getElem?_take] at hv
    split at hv
    · obtain ⟨a, rfl, -⟩ := e3 j v hv
      exact ⟨_, rfl⟩
    · cases hv
  · rintro h2 v2 ⟨I2, E2, rfl⟩
    exact ⟨I2, (pw_G_push ht).tE E2, rfl⟩
set_option maxHeartbeats 4000000 in
theorem cm_143_26 {X : List (Nat × List Value)} {d : Nat} {h : pm_H} (hd : 7 ≤ d) (I : pw_I h) (hX : pw_Xk X) (hR : pw_Xr X) (c : Nat) (hc : pw_Sc c) : pw X d h 143 0 [some (.ref 16), some (.ref 42), some (.ref (16 + c)), none] [] (fun h' v => pw_I h' ∧ pw_G [24, 26, 27, 30, 31, 32, 33, 34, 36, c, c + 1, c + 2, c + 3, c + 4] h h' ∧ ∃ a : Int, v = .inl (some (pw_i a)) ∧ (-2147483648) ≤ a ∧ a ≤ 2147483647) := by
  have E : pm_ent 143 = some (3, 4, 11, 0, pmc_143) := rfl
  refine pw_ld E (pc' := 1) (st' := [.ref 42]) rfl (fun _ => rfl) ?_
  refine pw_ld E (pc' := 2) (st' := [.ref 16, .ref 42]) rfl (fun _ => rfl) ?_
  refine pw_getR (b := 40) I E (c := 0) (k := 10) (pc' := 5) rfl rfl rfl rfl rfl rfl rfl ?_
  refine pw_ld E (pc' := 6) (st' := [.ref 16, .ref 40, .ref 42]) rfl (fun _ => rfl) ?_
  refine pw_getR (b := 46) I E (c := 0) (k := 13) (pc' := 9) rfl rfl rfl rfl rfl rfl rfl ?_
  obtain ⟨f1l, f1h, -⟩ := pw_obj (c := 26) I rfl
  refine pw_call (m' := 44) (As := [.ref 42, .ref 40, .ref 46]) (rest := []) (ls'' := [some (.ref 42), some (.ref 40), some (.ref 46), none, none]) (by omega) E rfl (fun _ => pw_iV rfl rfl rfl rfl (pw_cellI f1h rfl)) (rfl : pm_ent 44 = some (3, 5, 5, 0, pmc_44)) rfl rfl (cm_44_26 (by omega) I hX hR) ?_
  rintro h1 v1 ⟨I1, E1, a, rfl, ha, hb, hz⟩
  refine ⟨_, rfl, ?_⟩
  show pw X d h1 143 12 [some (.ref 16), some (.ref 42), some (.ref (16 + c)), none] [pw_i a] _
  refine pw_istn E (pc' := 13) (ls' := [some (.ref 16), some (.ref 42), some (.ref (16 + c)), some (pw_i a)]) rfl rfl rfl rfl ?_
  refine pw_ld E (pc' := 14) (st' := [.ref 16]) rfl (fun _ => rfl) ?_
  refine pw_getR (b := 40) I1 E (c := 0) (k := 10) (pc' := 17) rfl rfl rfl rfl rfl rfl rfl ?_
  obtain ⟨f2l, f2h, -⟩ := pw_obj (c := 24) I1 rfl
  refine pw_call (m' := 99) (As := [.ref 40]) (rest := []) (ls'' := [some (.ref 40)]) (by omega) E rfl (fun _ => pw_iV rfl rfl rfl rfl (pw_cellI f2h rfl)) (rfl : pm_ent 99 = some (1, 1, 9, 4, pmc_99)) rfl rfl (cm_99 (by omega) I1) ?_
  rintro h2 v2 ⟨I2, E2, rfl⟩
  refine ⟨_, rfl, ?_⟩
  show pw X d h2 143 20 [some (.ref 16), some (.ref 42), some (.ref (16 + c)), some (pw_i a)] [] _
  have e30 : pw_g h2 30 1 = pw_g h1 30 1 := pw_Eg (c := 30) I1 E2 rfl rfl 1
  have EE : pw_E [24, 26, 27, 30, 31, 32, 33, 34, 36, c, c + 1, c + 2, c + 3, c + 4] h h2 := (E1.wk (W' := [24, 26, 27, 30, 31, 32, 33, 34, 36, c, c + 1, c + 2, c + 3, c + 4]) (by simp)).tr (E2.wk (W' := [24, 26, 27, 30, 31, 32, 33, 34, 36, c, c + 1, c + 2, c + 3, c + 4]) (by simp))
  refine pw_ld E (pc' := 21) (st' := [pw_i a]) rfl (fun _ => rfl) ?_
  refine pw_if E (pc' := 32) rfl (by decide) ha hb ?_ ?_
  · intro _
    refine pw_ld E (pc' := 33) (st' := [pw_i a]) rfl (fun _ => rfl) ?_
    refine pw_iret E rfl ?_
    exact ⟨I2, EE.G, a, rfl, ha, hb⟩
  · intro hn
    have hn : ¬ (a ≠ 0) := hn
    refine pw_ld E (pc' := 25) (st' := [.ref (16 + c)]) rfl (fun _ => rfl) ?_
    refine pw_ld E (pc' := 26) (st' := [.ref 16, .ref (16 + c)]) rfl (fun _ => rfl) ?_
    refine pw_getR (b := 46) I2 E (c := 0) (k := 13) (pc' := 29) rfl rfl rfl rfl rfl rfl rfl ?_
    obtain ⟨f3l, f3h, -⟩ := pw_obj (c := c) I2 (pw_Sc_o hc)
    refine pw_call (m' := 73) (As := [.ref (16 + c), .ref 46]) (rest := []) (ls'' := [some (.ref (16 + c)), some (.ref 46), none]) (by omega) E rfl (fun _ => pw_iV rfl rfl rfl rfl (pw_cellI f3h rfl)) (rfl : pm_ent 73 = some (2, 3, 7, 4, pmc_73)) rfl rfl (cm_73 (by omega) I2 c hc (by omega)) ?_
    rintro h3 v3 ⟨I3, G3, rfl⟩
    refine ⟨_, rfl, ?_⟩
    show pw X d h3 143 32 [some (.ref 16), some (.ref 42), some (.ref (16 + c)), some (pw_i a)] [] _
    refine pw_ld E (pc' := 33) (st' := [pw_i a]) rfl (fun _ => rfl) ?_
    refine pw_iret E rfl ?_
    exact ⟨I3, EE.tG (G3.wk (W' := [24, 26, 27, 30, 31, 32, 33, 34, 36, c, c + 1, c + 2, c + 3, c + 4]) (by simp)), a, rfl, ha, hb⟩
set_option maxHeartbeats 4000000 in
theorem cm_143_28 {X : List (Nat × List Value)} {d : Nat} {h : pm_H} (hd : 7 ≤ d) (I : pw_I h) (hX : pw_Xk X) (hR : pw_Xr X) (c : Nat) (hc : pw_Sc c) : pw X d h 143 0 [some (.ref 16), some (.ref 44), some (.ref (16 + c)), none] [] (fun h' v => pw_I h' ∧ pw_G [24, 28, 29, 30, 31, 32, 33, 34, 36, c, c + 1, c + 2, c + 3, c + 4] h h' ∧ ∃ a : Int, v = .inl (some (pw_i a)) ∧ (-2147483648) ≤ a ∧ a ≤ 2147483647) := by
  have E : pm_ent 143 = some (3, 4, 11, 0, pmc_143) := rfl
  refine pw_ld E (pc' := 1) (st' := [.ref 44]) rfl (fun _ => rfl) ?_
  refine pw_ld E (pc' := 2) (st' := [.ref 16, .ref 44]) rfl (fun _ => rfl) ?_
  refine pw_getR (b := 40) I E (c := 0) (k := 10) (pc' := 5) rfl rfl rfl rfl rfl rfl rfl ?_
  refine pw_ld E (pc' := 6) (st' := [.ref 16, .ref 40, .ref 44]) rfl (fun _ => rfl) ?_
  refine pw_getR (b := 46) I E (c := 0) (k := 13) (pc' := 9) rfl rfl rfl rfl rfl rfl rfl ?_
  obtain ⟨f1l, f1h, -⟩ := pw_obj (c := 28) I rfl
  refine pw_call (m' := 44) (As := [.ref 44, .ref 40, .ref 46]) (rest := []) (ls'' := [some (.ref 44), some (.ref 40), some (.ref 46), none, none]) (by omega) E rfl (fun _ => pw_iV rfl rfl rfl rfl (pw_cellI f1h rfl)) (rfl : pm_ent 44 = some (3, 5, 5, 0, pmc_44)) rfl rfl (cm_44_28 (by omega) I hX hR) ?_
  rintro h1 v1 ⟨I1, E1, a, rfl, ha, hb, hz⟩
  refine ⟨_, rfl, ?_⟩
  show pw X d h1 143 12 [some (.ref 16), some (.ref 44), some (.ref (16 + c)), none] [pw_i a] _
  refine pw_istn E (pc' := 13) (ls' := [some (.ref 16), some (.ref 44), some (.ref (16 + c)), some (pw_i a)]) rfl rfl rfl rfl ?_
  refine pw_ld E (pc' := 14) (st' := [.ref 16]) rfl (fun _ => rfl) ?_
  refine pw_getR (b := 40) I1 E (c := 0) (k := 10) (pc' := 17) rfl rfl rfl rfl rfl rfl rfl ?_
  obtain ⟨f2l, f2h, -⟩ := pw_obj (c := 24) I1 rfl
  refine pw_call (m' := 99) (As := [.ref 40]) (rest := []) (ls'' := [some (.ref 40)]) (by omega) E rfl (fun _ => pw_iV rfl rfl rfl rfl (pw_cellI f2h rfl)) (rfl : pm_ent 99 = some (1, 1, 9, 4, pmc_99)) rfl rfl (cm_99 (by omega) I1) ?_
  rintro h2 v2 ⟨I2, E2, rfl⟩
  refine ⟨_, rfl, ?_⟩
  show pw X d h2 143 20 [some (.ref 16), some (.ref 44), some (.ref (16 + c)), some (pw_i a)] [] _
  have e30 : pw_g h2 30 1 = pw_g h1 30 1 := pw_Eg (c := 30) I1 E2 rfl rfl 1
  have EE : pw_E [24, 28, 29, 30, 31, 32, 33, 34, 36, c, c + 1, c + 2, c + 3, c + 4] h h2 := (E1.wk (W' := [24, 28, 29, 30, 31, 32, 33, 34, 36, c, c + 1, c + 2, c + 3, c + 4]) (by simp)).tr (E2.wk (W' := [24, 28, 29, 30, 31, 32, 33, 34, 36, c, c + 1, c + 2, c + 3, c + 4]) (by simp))
  refine pw_ld E (pc' := 21) (st' := [pw_i a]) rfl (fun _ => rfl) ?_
  refine pw_if E (pc' := 32) rfl (by decide) ha hb ?_ ?_
  · intro _
    refine pw_ld E (pc' := 33) (st' := [pw_i a]) rfl (fun _ => rfl) ?_
    refine pw_iret E rfl ?_
    exact ⟨I2, EE.G, a, rfl, ha, hb⟩
  · intro hn
    have hn : ¬ (a ≠ 0) := hn
    refine pw_ld E (pc' := 25) (st' := [.ref (16 + c)]) rfl (fun _ => rfl) ?_
    refine pw_ld E (pc' := 26) (st' := [.ref 16, .ref (16 + c)]) rfl (fun _ => rfl) ?_
    refine pw_getR (b := 46) I2 E (c := 0) (k := 13) (pc' := 29) rfl rfl rfl rfl rfl rfl rfl ?_
    obtain ⟨f3l, f3h, -⟩ := pw_obj (c := c) I2 (pw_Sc_o hc)
    refine pw_call (m' := 73) (As := [.ref (16 + c), .ref 46]) (rest := []) (ls'' := [some (.ref (16 + c)), some (.ref 46), none]) (by omega) E rfl (fun _ => pw_iV rfl rfl rfl rfl (pw_cellI f3h rfl)) (rfl : pm_ent 73 = some (2, 3, 7, 4, pmc_73)) rfl rfl (cm_73 (by omega) I2 c hc (by omega)) ?_
    rintro h3 v3 ⟨I3, G3, rfl⟩
    refine ⟨_, rfl, ?_⟩
    show pw X d h3 143 32 [some (.ref 16), some (.ref 44), some (.ref (16 + c)), some (pw_i a)] [] _
    refine pw_ld E (pc' := 33) (st' := [pw_i a]) rfl (fun _ => rfl) ?_
    refine pw_iret E rfl ?_
    exact ⟨I3, EE.tG (G3.wk (W' := [24, 28, 29, 30, 31, 32, 33, 34, 36, c, c + 1, c + 2, c + 3, c + 4]) (by simp)), a, rfl, ha, hb⟩
/-- the cells that law and writer of the class may write -/
def pw_WL : List Nat := [24, 26, 27, 28, 29, 30, 31, 32, 33, 34, 36] ++ (List.range 56).map (fun j => 39 + j)
set_option maxHeartbeats 4000000 in
theorem cm_141 {X : List (Nat × List Value)} {d : Nat} {h : pm_H} (hd : 8 ≤ d) (I : pw_I h) (hX : pw_Xk X) (hR : pw_Xr X) (l : Int) (hl1 : (-2147483648) ≤ l) (hl2 : l ≤ 2147483647) : pw X d h 141 0 [some (.ref 16), some (pw_i l)] [] (fun h' v => pw_I h' ∧ pw_G pw_WL h h' ∧ ∃ a : Int, v = .inl (some (pw_i a)) ∧ (-2147483648) ≤ a ∧ a ≤ 2147483647) := by
  have E : pm_ent 141 = some (2, 2, 11, 0, pmc_141) := rfl
  refine pw_ld E (pc' := 1) (st' := [pw_i l]) rfl (fun _ => rfl) ?_
  refine pw_call (m' := 142) (As := [pw_i l]) (rest := []) (ls'' := [some (pw_i l)]) (by omega) E rfl (fun _ => pw_iS rfl rfl rfl) (rfl : pm_ent 142 = some (1, 1, 11, 1, pmc_142)) rfl rfl (cm_142 (by omega) I (l) (by omega) (by omega)) ?_
  rintro u v ⟨rfl, x, rfl, hxa, hxb, hxr⟩
  refine ⟨_, rfl, ?_⟩
  show pw X d h 141 4 [some (.ref 16), some (pw_i l)] [pw_i x] _
  refine pw_if E (pc' := 16) rfl (by decide) (by omega) (by omega) ?_ ?_
  · intro hn
    have hn : x ≠ 0 := hn
    refine pw_ld E (pc' := 17) (st' := [.ref 16]) rfl (fun _ => rfl) ?_
    refine pw_ld E (pc' := 18) (st' := [.ref 16, .ref 16]) rfl (fun _ => rfl) ?_
    refine pw_getR (b := 42) I E (c := 0) (k := 11) (pc' := 21) rfl rfl rfl rfl rfl rfl rfl ?_
    refine pw_ld E (pc' := 22) (st' := [.ref 16, .ref 42, .ref 16]) rfl (fun _ => rfl) ?_
    refine pw_getR (b := 53) I E (c := 0) (k := 14) (pc' := 25) rfl rfl rfl rfl rfl rfl rfl ?_
    refine pw_ld E (pc' := 26) (st' := [pw_i l, .ref 53, .ref 42, .ref 16]) rfl (fun _ => rfl) ?_
    obtain ⟨c, hc, hcl⟩ : ∃ c : Nat, pw_Sc c ∧ (((55 : Int) + 14 * ((l.toNat : Nat) : Int)).toNat = 16 + c) := by
      rcases (by omega : l = 0 ∨ l = 1 ∨ l = 2 ∨ l = 3) with rfl | rfl | rfl | rfl
      · exact ⟨39, by unfold pw_Sc; omega, rfl⟩
      · exact ⟨53, by unfold pw_Sc; omega, rfl⟩
      · exact ⟨67, by unfold pw_Sc; omega, rfl⟩
      · exact ⟨81, by unfold pw_Sc; omega, rfl⟩
    refine pw_aald (b := 16 + c) I E (c := 37) (pc' := 27) rfl rfl (by decide) rfl (by decide) (by omega) (by omega) hcl rfl ?_
    obtain ⟨f1l, f1h, -⟩ := pw_obj (c := 0) I rfl
    refine pw_call (m' := 143) (As := [.ref 16, .ref 42, .ref (16 + c)]) (rest := []) (ls'' := [some (.ref 16), some (.ref 42), some (.ref (16 + c)), none]) (by omega) E rfl (fun _ => pw_iV rfl rfl rfl rfl (pw_cellI f1h rfl)) (rfl : pm_ent 143 = some (3, 4, 11, 0, pmc_143)) rfl rfl (cm_143_26 (by omega) I hX hR c hc) ?_
    rintro h1 v1 ⟨I1, G1, a, rfl, ha, hb⟩
    refine ⟨_, rfl, ?_⟩
    show pw X d h1 141 30 [some (.ref 16), some (pw_i l)] [pw_i a] _
    refine pw_iret E rfl ?_
    refine ⟨I1, G1.wk ?_, a, rfl, ha, hb⟩
    rcases hc with rfl | rfl | rfl | rfl | rfl | rfl | rfl | rfl <;> decide
  · intro hn
    refine pw_ld E (pc' := 8) (st' := [.ref 16]) rfl (fun _ => rfl) ?_
    refine pw_getR (b := 40) I E (c := 0) (k := 10) (pc' := 11) rfl rfl rfl rfl rfl rfl rfl ?_
    obtain ⟨f2l, f2h, -⟩ := pw_obj (c := 24) I rfl
    refine pw_call (m' := 99) (As := [.ref 40]) (rest := []) (ls'' := [some (.ref 40)]) (by omega) E rfl (fun _ => pw_iV rfl rfl rfl rfl (pw_cellI f2h rfl)) (rfl : pm_ent 99 = some (1, 1, 9, 4, pmc_99)) rfl rfl (cm_99 (by omega) I) ?_
    rintro h2 v2 ⟨I2, E2, rfl⟩
    refine ⟨_, rfl, ?_⟩
    show pw X d h2 141 14 [some (.ref 16), some (pw_i l)] [] _
    refine pw_ld E (pc' := 15) (st' := [pw_i (-1)]) rfl (fun _ => rfl) ?_
    refine pw_iret E rfl ?_
    exact ⟨I2, (E2.wk (W' := pw_WL) (by decide)).G, -1, rfl, by decide, by decide⟩
set_option maxHeartbeats 4000000 in
theorem cm_153 {X : List (Nat × List Value)} {d : Nat} {h : pm_H} (hd : 8 ≤ d) (I : pw_I h) (hX : pw_Xk X) (hR : pw_Xr X) (l : Int) (hl1 : (-2147483648) ≤ l) (hl2 : l ≤ 2147483647) : pw X d h 153 0 [some (.ref 16), some (pw_i l)] [] (fun h' v => pw_I h' ∧ pw_G pw_WL h h' ∧ ∃ a : Int, v = .inl (some (pw_i a)) ∧ (-2147483648) ≤ a ∧ a ≤ 2147483647) := by
  have E : pm_ent 153 = some (2, 2, 11, 0, pmc_153) := rfl
  refine pw_ld E (pc' := 1) (st' := [pw_i l]) rfl (fun _ => rfl) ?_
  refine pw_call (m' := 142) (As := [pw_i l]) (rest := []) (ls'' := [some (pw_i l)]) (by omega) E rfl (fun _ => pw_iS rfl rfl rfl) (rfl : pm_ent 142 = some (1, 1, 11, 1, pmc_142)) rfl rfl (cm_142 (by omega) I (l) (by omega) (by omega)) ?_
  rintro u v ⟨rfl, x, rfl, hxa, hxb, hxr⟩
  refine ⟨_, rfl, ?_⟩
  show pw X d h 153 4 [some (.ref 16), some (pw_i l)] [pw_i x] _
  refine pw_if E (pc' := 16) rfl (by decide) (by omega) (by omega) ?_ ?_
  · intro hn
    have hn : x ≠ 0 := hn
    refine pw_ld E (pc' := 17) (st' := [.ref 16]) rfl (fun _ => rfl) ?_
    refine pw_ld E (pc' := 18) (st' := [.ref 16, .ref 16]) rfl (fun _ => rfl) ?_
    refine pw_getR (b := 44) I E (c := 0) (k := 12) (pc' := 21) rfl rfl rfl rfl rfl rfl rfl ?_
    refine pw_ld E (pc' := 22) (st' := [.ref 16, .ref 44, .ref 16]) rfl (fun _ => rfl) ?_
    refine pw_getR (b := 54) I E (c := 0) (k := 15) (pc' := 25) rfl rfl rfl rfl rfl rfl rfl ?_
    refine pw_ld E (pc' := 26) (st' := [pw_i l, .ref 54, .ref 44, .ref 16]) rfl (fun _ => rfl) ?_
    obtain ⟨c, hc, hcl⟩ : ∃ c : Nat, pw_Sc c ∧ (((62 : Int) + 14 * ((l.toNat : Nat) : Int)).toNat = 16 + c) := by
      rcases (by omega : l = 0 ∨ l = 1 ∨ l = 2 ∨ l = 3) with rfl | rfl | rfl | rfl
      · exact ⟨46, by unfold pw_Sc; omega, rfl⟩
      · exact ⟨60, by unfold pw_Sc; omega, rfl⟩
      · exact ⟨74, by unfold pw_Sc; omega, rfl⟩
      · exact ⟨88, by unfold pw_Sc; omega, rfl⟩
    refine pw_aald (b := 16 + c) I E (c := 38) (pc' := 27) rfl rfl (by decide) rfl (by decide) (by omega) (by omega) hcl rfl ?_
    obtain ⟨f1l, f1h, -⟩ := pw_obj (c := 0) I rfl
    refine pw_call (m' := 143) (As := [.ref 16, .ref 44, .ref (16 + c)]) (rest := []) (ls'' := [some (.ref 16), some (.ref 44), some (.ref (16 + c)), none]) (by omega) E rfl (fun _ => pw_iV rfl rfl rfl rfl (pw_cellI f1h rfl)) (rfl : pm_ent 143 = some (3, 4, 11, 0, pmc_143)) rfl rfl (cm_143_28 (by omega) I hX hR c hc) ?_
    rintro h1 v1 ⟨I1, G1, a, rfl, ha, hb⟩
    refine ⟨_, rfl, ?_⟩
    show pw X d h1 153 30 [some (.ref 16), some (pw_i l)] [pw_i a] _
    refine pw_iret E rfl ?_
    refine ⟨I1, G1.wk ?_, a, rfl, ha, hb⟩
    rcases hc with rfl | rfl | rfl | rfl | rfl | rfl | rfl | rfl <;> decide
  · intro hn
    refine pw_ld E (pc' := 8) (st' := [.ref 16]) rfl (fun _ => rfl) ?_
    refine pw_getR (b := 40) I E (c := 0) (k := 10) (pc' := 11) rfl rfl rfl rfl rfl rfl rfl ?_
    obtain ⟨f2l, f2h, -⟩ := pw_obj (c := 24) I rfl
    refine pw_call (m' := 99) (As := [.ref 40]) (rest := []) (ls'' := [some (.ref 40)]) (by omega) E rfl (fun _ => pw_iV rfl rfl rfl rfl (pw_cellI f2h rfl)) (rfl : pm_ent 99 = some (1, 1, 9, 4, pmc_99)) rfl rfl (cm_99 (by omega) I) ?_
    rintro h2 v2 ⟨I2, E2, rfl⟩
    refine ⟨_, rfl, ?_⟩
    show pw X d h2 153 14 [some (.ref 16), some (pw_i l)] [] _
    refine pw_ld E (pc' := 15) (st' := [pw_i (-1)]) rfl (fun _ => rfl) ?_
    refine pw_iret E rfl ?_
    exact ⟨I2, (E2.wk (W' := pw_WL) (by decide)).G, -1, rfl, by decide, by decide⟩
end
section
/-! the law's own frame (printed by wip/tool/mlawrules.py) -/
def pwl (X : List (Nat × List Value)) (K : Nat) (h : pm_H) (pc : Nat) (ls : pm_L) (st : List Value) (Q : pm_H → (Option Value ⊕ Unit) → Prop) : Prop :=
  ∃ k N0 o, k ≤ K ∧ Q o.1 o.2 ∧ ∀ N, N0 ≤ N → pm_xk X N k 50 h 309 pc ls st = some o
theorem pwl_mono {X : List (Nat × List Value)} {K K' : Nat} {h : pm_H} {pc : Nat} {ls : pm_L} {st : List Value} {Q : pm_H → (Option Value ⊕ Unit) → Prop} (hk : K ≤ K') (H : pwl X K h pc ls st Q) : pwl X K' h pc ls st Q := by
  obtain ⟨k, N0, o, h1, h2, h3⟩ := H
  exact ⟨k, N0, o, Nat.le_trans h1 hk, h2, h3⟩
theorem pm_xk_at {X : List (Nat × List Value)} {N k d : Nat} {h : pm_H} {m pc len na nl own rt : Nat} {C : pm_T (Instr × Nat)} {ls : pm_L} {st : List Value} {i : Instr} (he : pm_ent m = some (na, nl, own, rt, C)) (hq : pm_get C pc = some (i, len)) : pm_xk X N (k + 1) d h m pc ls st = pm_dsp X i (pm_ik X N (pm_xk X N k)) d h m own pc len ls st := by
  show pm_F X (pm_ik X N (pm_xk X N k)) d h m pc ls st = _
  unfold pm_F
  rw [he]
  show (match pm_get C pc with
    | none => none
    | some q => pm_dsp X q.1 (pm_ik X N (pm_xk X N k)) d h m own pc q.2 ls st) = _
  rw [hq]
theorem pm_ik_309 {X : List (Nat × List Value)} {N : Nat} {K : pm_I} {d : Nat} {h : pm_H} {pc : Nat} {ls : pm_L} {st : List Value} : pm_ik X N K d h 309 pc ls st = K d h 309 pc ls st := by
  unfold pm_ik
  rw [Nat.beq_refl]
  rfl
/-- an int of the script -/
def pw_s (xs : List Int32) (j : Int) : Int := (xs.getD j.toNat 0).toInt
theorem pw_s_r (xs : List Int32) (j : Int) : -2147483648 ≤ pw_s xs j ∧ pw_s xs j ≤ 2147483647 := pw_i32r _
section Pl
variable {X : List (Nat × List Value)} {K : Nat} {h h' : pm_H} {pc pc' len na nl own rt : Nat} {C : pm_T (Instr × Nat)} {ls ls' : pm_L} {st st' r : List Value} {Q : pm_H → (Option Value ⊕ Unit) → Prop} {i : Instr}
theorem pwl_go (he : pm_ent 309 = some (na, nl, own, rt, C)) (hq : pm_get C pc = some (i, len)) (hs : ∀ ih : pm_I, pm_dsp X i ih 50 h 309 own pc len ls st = ih 50 h' 309 pc' ls' st') (H : pwl X K h' pc' ls' st' Q) : pwl X (K + 1) h pc ls st Q := by
  obtain ⟨k, N0, o, hk, hQ, hn⟩ := H
  refine ⟨k + 1, N0, o, by omega, hQ, fun n hn' => ?_⟩
  rw [pm_xk_at he hq]
  exact (hs _).trans (pm_ik_309.trans (hn n hn'))
theorem pwl_end {v : Option Value ⊕ Unit} (he : pm_ent 309 = some (na, nl, own, rt, C)) (hq : pm_get C pc = some (i, len)) (hs : ∀ ih : pm_I, pm_dsp X i ih 50 h 309 own pc len ls st = some (h, v)) (H : Q h v) : pwl X (K + 1) h pc ls st Q := by
  refine ⟨1, 0, (h, v), by omega, H, fun n hn' => ?_⟩
  rw [pm_xk_at he hq]
  exact hs _
theorem pwl_ld (he : pm_ent 309 = some (na, nl, own, rt, C)) (hq : pm_get C pc = some (i, len)) (hs : ∀ ih : pm_I, pm_dsp X i ih 50 h 309 own pc len ls st = ih 50 h 309 pc' ls st') (H : pwl X K h pc' ls st' Q) : pwl X (K + 1) h pc ls st Q := pwl_go he hq hs H
theorem pwl_nmx {x : Int32} (H : ∀ b : Int, -2147483648 ≤ b → b ≤ 2147483647 → pwl X K h pc ls (pw_i b :: r) Q) : pwl X K h pc ls (.int x :: r) Q := by
  obtain ⟨b, h1, h2, h3⟩ := pw_any x
  rw [h3]
  exact H b h1 h2
theorem pwl_bip {n : Int} (he : pm_ent 309 = some (na, nl, own, rt, C)) (hq : pm_get C pc = some (.bipush n, len)) (hc : pc + len = pc') (hv : (Int8.ofInt n).toInt32 = Int32.ofInt n) (H : pwl X K h pc' ls (pw_i n :: st) Q) : pwl X (K + 1) h pc ls st Q := by
  subst hc
  refine pwl_ld he hq (st' := .int (Int8.ofInt n).toInt32 :: st) (pc' := pc + len) (fun ih => ?_) (by rw [hv]; exact H)
  exact pm_fn_eq (pc + len) (fun q => ih 50 h 309 q ls (.int (Int8.ofInt n).toInt32 :: st))
theorem pwl_ist {k : Nat} {a : Int} (he : pm_ent 309 = some (na, nl, own, rt, C)) (hq : pm_get C pc = some (.istore k, len)) (hk : Nat.blt k (pm_len ls) = true) (hp : pm_put1 ls k (pw_i a) = ls') (hc : pc + len = pc') (H : pwl X K h pc' ls' r Q) : pwl X (K + 1) h pc ls (pw_i a :: r) Q := by
  subst hc; subst hp
  refine pwl_go he hq (fun ih => ?_) H
  show cond (Nat.blt k (pm_len ls)) (pm_fi (Int32.ofInt a) fun y => pm_fn (pc + len) fun q => ih 50 h 309 q (pm_put1 ls k (.int y)) r) none = _
  rw [hk, cond_true, pm_fi_eq, pm_fn_eq]
  rfl
theorem pwl_lst {k : Nat} {w : Int64} (he : pm_ent 309 = some (na, nl, own, rt, C)) (hq : pm_get C pc = some (.lstore k, len)) (hk : Nat.blt (k + 1) (pm_len ls) = true) (hp : pm_put2 ls k (.long w) = ls') (hc : pc + len = pc') (H : pwl X K h pc' ls' r Q) : pwl X (K + 1) h pc ls (.long w :: r) Q := by
  subst hc; subst hp
  refine pwl_go he hq (fun ih => ?_) H
  show cond (Nat.blt (k + 1) (pm_len ls)) (pm_fl w fun y => pm_fn (pc + len) fun q => ih 50 h 309 q (pm_put2 ls k (.long y)) r) none = _
  rw [hk, cond_true, pm_fl_eq, pm_fn_eq]
theorem pwl_astn {k : Fin 4} {a : Nat} (he : pm_ent 309 = some (na, nl, own, rt, C)) (hq : pm_get C pc = some (.astore_n k, len)) (hk : Nat.blt k.val (pm_len ls) = true) (hp : pm_put1 ls k.val (.ref a) = ls') (hc : pc + len = pc') (H : pwl X K h pc' ls' r Q) : pwl X (K + 1) h pc ls (.ref a :: r) Q := by
  subst hc; subst hp
  refine pwl_go he hq (fun ih => ?_) H
  show cond (Nat.blt k.val (pm_len ls)) (pm_fn (pc + len) fun q => ih 50 h 309 q (pm_put1 ls k.val (.ref a)) r) none = _
  rw [hk, cond_true, pm_fn_eq]
theorem pwl_inc {k : Nat} {n a : Int} (he : pm_ent 309 = some (na, nl, own, rt, C)) (hq : pm_get C pc = some (.iinc k n, 3)) (hl : pm_nth ls k = some (some (pw_i a))) (hp : pm_put1 ls k (pw_i (a + n)) = ls') (hc : pc + 3 = pc') (H : pwl X K h pc' ls' st Q) : pwl X (K + 1) h pc ls st Q := by
  subst hc; subst hp
  refine pwl_go he hq (fun ih => ?_) H
  show pm_lift (pm_sInc k n) ih 50 h 309 own pc 3 ls st = _
  unfold pm_lift pm_sInc
  rw [hl]
  show cond (Nat.beq 3 3) (pm_fi (Int32.ofInt a + Int32.ofInt n) fun y => pm_fn (pc + 3) fun q => ih 50 h 309 q (pm_put1 ls k (.int y)) st) none = _
  rw [Nat.beq_refl, cond_true, pm_fi_eq, pm_fn_eq, ← Int32.ofInt_add]
  rfl
theorem pwl_add {a b : Int} (he : pm_ent 309 = some (na, nl, own, rt, C)) (hq : pm_get C pc = some (.iadd, len)) (hc : pc + len = pc') (H : pwl X K h pc' ls (pw_i (a + b) :: r) Q) : pwl X (K + 1) h pc ls (pw_i b :: pw_i a :: r) Q := by
  subst hc
  refine pwl_ld he hq (st' := pw_i (a + b) :: r) (pc' := pc + len) (fun ih => ?_) H
  unfold pw_i
  rw [Int32.ofInt_add]
  exact pm_fn_eq (pc + len) (fun q => ih 50 h 309 q ls (.int (Int32.ofInt a + Int32.ofInt b) :: r))
theorem pwl_sub {a b : Int} (he : pm_ent 309 = some (na, nl, own, rt, C)) (hq : pm_get C pc = some (.isub, len)) (hc : pc + len = pc') (H : pwl X K h pc' ls (pw_i (a - b) :: r) Q) : pwl X (K + 1) h pc ls (pw_i b :: pw_i a :: r) Q := by
  subst hc
  refine pwl_ld he hq (st' := pw_i (a - b) :: r) (pc' := pc + len) (fun ih => ?_) H
  unfold pw_i
  rw [Int32.ofInt_sub]
  exact pm_fn_eq (pc + len) (fun q => ih 50 h 309 q ls (.int (Int32.ofInt a - Int32.ofInt b) :: r))
theorem pwl_ii {f : Int32 → Int32 → Int32} {a b : Int} (he : pm_ent 309 = some (na, nl, own, rt, C)) (hq : pm_get C pc = some (i, len)) (hs : ∀ ih : pm_I, pm_dsp X i ih 50 h 309 own pc len ls (pw_i b :: pw_i a :: r) = ih 50 h 309 pc' ls (.int (f (Int32.ofInt a) (Int32.ofInt b)) :: r)) (H : ∀ c : Int, -2147483648 ≤ c → c ≤ 2147483647 → pwl X K h pc' ls (pw_i c :: r) Q) : pwl X (K + 1) h pc ls (pw_i b :: pw_i a :: r) Q := pwl_ld he hq hs (pwl_nmx H)
theorem pwl_goto {off : Int} (he : pm_ent 309 = some (na, nl, own, rt, C)) (hq : pm_get C pc = some (.goto off, len)) (ht : (pc : Int) + off = (pc' : Int)) (H : pwl X K h pc' ls st Q) : pwl X (K + 1) h pc ls st Q := by
  refine pwl_ld he hq (pc' := pc') (st' := st) (fun ih => ?_) H
  show pm_to ((pc : Int) + off) (fun t => ih 50 h 309 t ls st) = _
  rw [ht]
  exact pm_fn_eq pc' (fun t => ih 50 h 309 t ls st)
theorem pwl_if {c : ClassFile.Cond} {off a : Int} (he : pm_ent 309 = some (na, nl, own, rt, C)) (hq : pm_get C pc = some (.ifCond c off, len)) (ht : (pc : Int) + off = (pc' : Int)) (h1 : -2147483648 ≤ a) (h2 : a ≤ 2147483647) (HT : pw_c c a 0 → pwl X K h pc' ls r Q) (HF : ¬ pw_c c a 0 → pwl X K h (pc + 3) ls r Q) : pwl X (K + 1) h pc ls (pw_i a :: r) Q := by
  have key : ∀ ih : pm_I, pm_dsp X (.ifCond c off) ih 50 h 309 own pc len ls (pw_i a :: r) = cond (pm_cnd c (Int32.ofInt a) (Int32.ofInt 0)) (ih 50 h 309 pc' ls r) (ih 50 h 309 (pc + 3) ls r) := by
    intro ih
    show pm_to ((pc : Int) + off) (fun t => cond (pm_cnd c (Int32.ofInt a) 0) (ih 50 h 309 t ls r) (pm_fn (pc + 3) fun q => ih 50 h 309 q ls r)) = _
    rw [ht]
    rw [pm_fn_eq (pc + 3)]
    exact pm_fn_eq pc' (fun t => cond (pm_cnd c (Int32.ofInt a) 0) (ih 50 h 309 t ls r) (ih 50 h 309 (pc + 3) ls r))
  by_cases hc : pm_cnd c (Int32.ofInt a) (Int32.ofInt 0) = true
  · refine pwl_ld he hq (fun ih => ?_) (HT ((pw_cnd h1 h2 (by omega) (by omega)).mp hc))
    rw [key, hc, cond_true]
  · refine pwl_ld he hq (fun ih => ?_) (HF (fun q => hc ((pw_cnd h1 h2 (by omega) (by omega)).mpr q)))
    rw [key, Bool.not_eq_true _ |>.mp hc, cond_false]
theorem pwl_if2 {c : ClassFile.Cond} {off a b : Int} (he : pm_ent 309 = some (na, nl, own, rt, C)) (hq : pm_get C pc = some (.if_icmp c off, len)) (ht : (pc : Int) + off = (pc' : Int)) (h1 : -2147483648 ≤ a) (h2 : a ≤ 2147483647) (h3 : -2147483648 ≤ b) (h4 : b ≤ 2147483647) (HT : pw_c c a b → pwl X K h pc' ls r Q) (HF : ¬ pw_c c a b → pwl X K h (pc + 3) ls r Q) : pwl X (K + 1) h pc ls (pw_i b :: pw_i a :: r) Q := by
  have key : ∀ ih : pm_I, pm_dsp X (.if_icmp c off) ih 50 h 309 own pc len ls (pw_i b :: pw_i a :: r) = cond (pm_cnd c (Int32.ofInt a) (Int32.ofInt b)) (ih 50 h 309 pc' ls r) (ih 50 h 309 (pc + 3) ls r) := by
    intro ih
    show pm_to ((pc : Int) + off) (fun t => cond (pm_cnd c (Int32.ofInt a) (Int32.ofInt b)) (ih 50 h 309 t ls r) (pm_fn (pc + 3) fun q => ih 50 h 309 q ls r)) = _
    rw [ht]
    rw [pm_fn_eq (pc + 3)]
    exact pm_fn_eq pc' (fun t => cond (pm_cnd c (Int32.ofInt a) (Int32.ofInt b)) (ih 50 h 309 t ls r) (ih 50 h 309 (pc + 3) ls r))
  by_cases hc : pm_cnd c (Int32.ofInt a) (Int32.ofInt b) = true
  · refine pwl_ld he hq (fun ih => ?_) (HT ((pw_cnd h1 h2 h3 h4).mp hc))
    rw [key, hc, cond_true]
  · refine pwl_ld he hq (fun ih => ?_) (HF (fun q => hc ((pw_cnd h1 h2 h3 h4).mpr q)))
    rw [key, Bool.not_eq_true _ |>.mp hc, cond_false]
theorem pwl_tswD {df lo hi a : Int} {offs : Array Int} (he : pm_ent 309 = some (na, nl, own, rt, C)) (hq : pm_get C pc = some (.tableswitch df lo hi offs, len)) (h1 : -2147483648 ≤ a) (h2 : a ≤ 2147483647) (ho : a < lo ∨ hi < a) (ht : (pc : Int) + df = (pc' : Int)) (H : pwl X K h pc' ls r Q) : pwl X (K + 1) h pc ls (pw_i a :: r) Q := by
  refine pwl_ld he hq (fun ih => ?_) H
  show pm_tsw (Int32.ofInt a).toInt lo hi df offs (fun o => pm_to ((pc : Int) + o) fun t => ih 50 h 309 t ls r) = _
  unfold pm_tsw
  rw [pw_toInt h1 h2, if_pos ho]
  show pm_to ((pc : Int) + df) (fun t => ih 50 h 309 t ls r) = _
  rw [ht]
  exact pm_fn_eq pc' (fun t => ih 50 h 309 t ls r)
theorem pwl_tswJ {df lo hi a o : Int} {offs : Array Int} (he : pm_ent 309 = some (na, nl, own, rt, C)) (hq : pm_get C pc = some (.tableswitch df lo hi offs, len)) (h1 : -2147483648 ≤ a) (h2 : a ≤ 2147483647) (ho : ¬ (a < lo ∨ hi < a)) (hj : pm_nth offs.toList (a - lo).toNat = some o) (ht : (pc : Int) + o = (pc' : Int)) (H : pwl X K h pc' ls r Q) : pwl X (K + 1) h pc ls (pw_i a :: r) Q := by
  refine pwl_ld he hq (fun ih => ?_) H
  show pm_tsw (Int32.ofInt a).toInt lo hi df offs (fun o => pm_to ((pc : Int) + o) fun t => ih 50 h 309 t ls r) = _
  unfold pm_tsw
  rw [pw_toInt h1 h2, if_neg ho, hj]
  show pm_to ((pc : Int) + o) (fun t => ih 50 h 309 t ls r) = _
  rw [ht]
  exact pm_fn_eq pc' (fun t => ih 50 h 309 t ls r)
theorem pwl_zret {a : Int} (he : pm_ent 309 = some (na, nl, own, 1, C)) (hq : pm_get C pc = some (.ireturn, len)) (ha : a = 0 ∨ a = 1) (H : Q h (.inl (some (pw_i a)))) : pwl X (K + 1) h pc ls [pw_i a] Q := by
  refine pwl_end he hq (fun ih => ?_) H
  show ((match pm_ent 309 with
    | some e => cond (Nat.ble 0 e.2.2.2.1) (cond (Nat.ble e.2.2.2.1 1) (cond (pm_fit e.2.2.2.1 (pw_i a)) (some (h, .inl (some (pw_i a)))) none) none) none
    | none => none) : pm_R) = _
  rw [he]
  rcases ha with rfl | rfl <;> rfl
theorem pwl_alen {t a : Nat} {l : List Value} (he : pm_ent 309 = some (na, nl, own, rt, C)) (hq : pm_get C pc = some (.arraylength, len)) (hr : pm_row X h a = some (t, l)) (ht : pm_okt t = true) (hc : pc + len = pc') (H : pwl X K h pc' ls (pw_i (l.length : Int) :: r) Q) : pwl X (K + 1) h pc ls (.ref a :: r) Q := by
  subst hc
  refine pwl_ld he hq (st' := pw_i (l.length : Int) :: r) (pc' := pc + len) (fun ih => ?_) H
  show pm_gLen X ih 50 h 309 own pc len ls (.ref a :: r) = _
  unfold pm_gLen
  dsimp only
  rw [hr]
  show cond (pm_okt t) (pm_fn (pm_len l) fun z => pm_fn (pc + len) fun q => ih 50 h 309 q ls (.int (Int32.ofNat z) :: r)) none = _
  rw [ht, cond_true, pm_fn_eq, pm_fn_eq, pm_len_eq]
  rfl
theorem pwl_xlen {a n : Nat} {l : List Value} (he : pm_ent 309 = some (na, nl, own, rt, C)) (hq : pm_get C pc = some (.arraylength, len)) (hX : X[a]? = some (0, l)) (ha : a < 16) (hn : l.length = n) (hc : pc + len = pc') (H : pwl X K h pc' ls (pw_i (n : Int) :: r) Q) : pwl X (K + 1) h pc ls (.ref a :: r) Q := by
  subst hn
  refine pwl_alen he hq (t := 0) (l := l) ?_ rfl hc H
  unfold pm_row
  rw [show Nat.blt a 16 = true from Nat.ble_eq_true_of_le ha, cond_true, pm_nth_eq, hX]
  rfl
theorem pwl_sald {xs : List Int32} {j : Int} (he : pm_ent 309 = some (na, nl, own, rt, C)) (hq : pm_get C pc = some (.iaload, len)) (hX : X[0]? = some (0, xs.map Value.int)) (hl : xs.length ≤ 3584) (h0 : 0 ≤ j) (h1 : j < xs.length) (hc : pc + len = pc') (H : pwl X K h pc' ls (pw_i (pw_s xs j) :: r) Q) : pwl X (K + 1) h pc ls (pw_i j :: .ref 0 :: r) Q := by
  subst hc
  refine pwl_ld he hq (st' := pw_i (pw_s xs j) :: r) (pc' := pc + len) (fun ih => ?_) H
  have er : pm_row X h 0 = some (0, xs.map Value.int) := by
    unfold pm_row
    rw [show Nat.blt 0 16 = true from rfl, cond_true, pm_nth_eq, hX]
    rfl
  have en : (xs.map Value.int)[j.toNat]? = some (pw_i (pw_s xs j)) := by
    rw [List.getElem?_map, List.getElem?_eq_getElem (by omega : j.toNat < xs.length)]
    unfold pw_i pw_s
    rw [Int32.ofInt_toInt, List.getD_eq_getElem?_getD, List.getElem?_eq_getElem (by omega : j.toNat < xs.length)]
    rfl
  show pm_gAld X 0 0 ih 50 h 309 own pc len ls (pw_i j :: .ref 0 :: r) = _
  unfold pm_gAld pw_i
  dsimp only
  rw [er]
  show cond (Nat.beq 0 0 || Nat.beq 0 0) (cond (decide (Int32.ofInt j < 0)) none (match pm_nth (xs.map Value.int) (Int32.ofInt j).toNatClampNeg with
        | some (.int x) => pm_fn (pc + len) fun q => ih 50 h 309 q ls (.int x :: r)
        | _ => none)) none = _
  rw [Nat.beq_refl, Bool.true_or, cond_true, decide_eq_false (pw_neg h0 (by omega)), cond_false, pw_clamp h0 (by omega), pm_nth_eq, en]
  show pm_fn (pc + len) _ = _
  rw [pm_fn_eq]
theorem pwl_call {m' : Nat} {e' : pm_M} {As rest : List Value} {ls'' : pm_L} {Qc : pm_H → (Option Value ⊕ Unit) → Prop} (he : pm_ent 309 = some (na, nl, own, rt, C)) (hq : pm_get C pc = some (i, len)) (hs : ∀ ih : pm_I, pm_dsp X i ih 50 h 309 own pc len ls st = pm_call ih 50 h 309 pc ls m' As rest false) (he' : pm_ent m' = some e') (hm : m' ≠ 309) (hlay : pm_lay As e'.2.1 = ls'') (hlen : pm_len ls'' = e'.2.1)
    (HC : pw X 49 h m' 0 ls'' [] Qc) (HK : ∀ h' v, Qc h' v → ∃ w, v = .inl w ∧ pwl X K h' (pc + 3) ls (w.toList ++ rest) Q) : pwl X (K + 1) h pc ls st Q := by
  obtain ⟨n1, o1, hQ1, hn1⟩ := HC
  obtain ⟨h1, v1⟩ := o1
  obtain ⟨w, hw, k, n2, o2, hk, hQ2, hn2⟩ := HK h1 v1 hQ1
  have hw : v1 = .inl w := hw
  subst hw
  refine ⟨k + 1, max n1 n2, o2, by omega, hQ2, fun n hn' => ?_⟩
  rw [pm_xk_at he hq]
  refine (hs _).trans ?_
  show (match pm_ent m' with
    | none => none
    | some e => cond (Nat.beq (pm_len (pm_lay As e.2.1)) e.2.1) (match pm_ik X n (pm_xk X n k) 49 h m' 0 (pm_lay As e.2.1) [] with
      | some (h', .inl v) => pm_fn (pc + 3) fun q => pm_ik X n (pm_xk X n k) 50 h' 309 q ls (v.toList ++ rest)
      | some (h', .inr _) => cond false (some (h', .inl (some (.int 1)))) none
      | none => none) none) = _
  rw [he']
  show cond (Nat.beq (pm_len (pm_lay As e'.2.1)) e'.2.1) (match pm_ik X n (pm_xk X n k) 49 h m' 0 (pm_lay As e'.2.1) [] with
      | some (h', .inl v) => pm_fn (pc + 3) fun q => pm_ik X n (pm_xk X n k) 50 h' 309 q ls (v.toList ++ rest)
      | some (h', .inr _) => cond false (some (h', .inl (some (.int 1)))) none
      | none => none) none = _
  have hn1 := hn1 n (by omega)
  rw [hlay, hlen, Nat.beq_refl, cond_true, pm_ik_ne hm, hn1]
  show (pm_fn (pc + 3) fun q => pm_ik X n (pm_xk X n k) 50 h1 309 q ls (w.toList ++ rest)) = _
  rw [pm_fn_eq, pm_ik_309]
  exact hn2 n (by omega)
theorem pwl_iV {ix m' nb ci a : Nat} {As rest fs : List Value} {ih : pm_I} (hl : pm_get (pm_lnk 13) ix = some (1, m', nb, ci)) (hp : pm_pop nb st [] = some (.ref a :: As, rest)) (h8 : pm_cat8 rest = true) (hc : pm_cell h a = some (.inr (ci, fs))) : pm_dsp X (.invokevirtual ix) ih 50 h 309 13 pc len ls st = pm_call ih 50 h 309 pc ls m' (.ref a :: As) rest false := by
  show pm_gInv X 1 ix ih 50 h 309 13 pc len ls st = _
  unfold pm_gInv
  rw [hl]
  show (match pm_pop nb st [] with
      | some (As, rest) => cond (pm_cat8 rest) (pm_gC 1 ih 50 h 309 13 pc ls m' ci As rest) none
      | none => none) = _
  rw [hp]
  show cond (pm_cat8 rest) (pm_gC 1 ih 50 h 309 13 pc ls m' ci (.ref a :: As) rest) none = _
  rw [h8, cond_true]
  show (match pm_cell h a with
      | some (.inr (cj, _)) => cond (Nat.beq cj ci) (pm_call ih 50 h 309 pc ls m' (.ref a :: As) rest (Nat.beq 13 13 && !Nat.beq 309 309)) none
      | _ => none) = _
  rw [hc]
  show cond (Nat.beq ci ci) _ none = _
  rw [Nat.beq_refl]
  rfl
theorem pwl_iS {ix m' nb ci : Nat} {As rest : List Value} {ih : pm_I} (hl : pm_get (pm_lnk 13) ix = some (14, m', nb, ci)) (hp : pm_pop nb st [] = some (As, rest)) (h8 : pm_cat8 rest = true) (hsc : pm_all (pm_scl (16 + pm_len h)) ls = true) (hsr : pm_all (pm_scv (16 + pm_len h)) rest = true) : pm_dsp X (.invokestatic ix) ih 50 h 309 13 pc len ls st = pm_call ih 50 h 309 pc ls m' As rest false := by
  show pm_gInv X 2 ix ih 50 h 309 13 pc len ls st = _
  unfold pm_gInv
  rw [hl]
  show (match pm_pop nb st [] with
      | some (As, rest) => cond (pm_cat8 rest) (cond (pm_all (pm_scl (16 + pm_len h)) ls && pm_all (pm_scv (16 + pm_len h)) rest) (pm_call ih 50 h 309 pc ls m' As rest false) none) none
      | none => none) = _
  rw [hp]
  show cond (pm_cat8 rest) (cond (pm_all (pm_scl (16 + pm_len h)) ls && pm_all (pm_scv (16 + pm_len h)) rest) (pm_call ih 50 h 309 pc ls m' As rest false) none) none = _
  rw [h8, cond_true, hsc, hsr]
  rfl
end Pl
section Ph
variable {X : List (Nat × List Value)} {d : Nat} {h : pm_H} {m pc len na nl own rt : Nat} {C : pm_T (Instr × Nat)} {ls : pm_L} {st : List Value} {Q : pm_H → (Option Value ⊕ Unit) → Prop} {i : Instr}
/-- a call in one of the law's helpers: what is thrown there is caught, and answers 1 -/
theorem pw_callH {m' : Nat} {e' : pm_M} {As rest : List Value} {ls'' : pm_L} (hd : 1 ≤ d) {Qc : pm_H → (Option Value ⊕ Unit) → Prop} (he : pm_ent m = some (na, nl, own, rt, C)) (hq : pm_get C pc = some (i, len)) (hs : ∀ ih : pm_I, pm_dsp X i ih d h m own pc len ls st = pm_call ih d h m pc ls m' As rest true) (he' : pm_ent m' = some e') (hlay : pm_lay As e'.2.1 = ls'') (hlen : pm_len ls'' = e'.2.1)
    (HC : pw X (d - 1) h m' 0 ls'' [] Qc) (HK : ∀ h' v, Qc h' v → (v = .inr () ∧ Q h' (.inl (some (.int 1)))) ∨ ∃ w, v = .inl w ∧ pw X d h' m (pc + 3) ls (w.toList ++ rest) Q) : pw X d h m pc ls st Q := by
  obtain ⟨n1, o1, hQ1, hn1⟩ := HC
  obtain ⟨h1, v1⟩ := o1
  obtain ⟨d', rfl⟩ : ∃ d', d = d' + 1 := ⟨d - 1, by omega⟩
  have key : ∀ k, n1 ≤ k → pm_x X (k + 1) (d' + 1) h m pc ls st = (match v1 with
      | .inl v => pm_x X k (d' + 1) h1 m (pc + 3) ls (v.toList ++ rest)
      | .inr _ => some (h1, .inl (some (.int 1)))) := by
    intro k hk
    rw [pm_x_at he hq]
    refine (hs _).trans ?_
    show (match pm_ent m' with
      | none => none
      | some e => cond (Nat.beq (pm_len (pm_lay As e.2.1)) e.2.1) (match pm_x X k d' h m' 0 (pm_lay As e.2.1) [] with
        | some (h', .inl v) => pm_fn (pc + 3) fun q => pm_x X k (d' + 1) h' m q ls (v.toList ++ rest)
        | some (h', .inr _) => cond true (some (h', .inl (some (.int 1)))) none
        | none => none) none) = _
    rw [he']
    show cond (Nat.beq (pm_len (pm_lay As e'.2.1)) e'.2.1) (match pm_x X k d' h m' 0 (pm_lay As e'.2.1) [] with
        | some (h', .inl v) => pm_fn (pc + 3) fun q => pm_x X k (d' + 1) h' m q ls (v.toList ++ rest)
        | some (h', .inr _) => cond true (some (h', .inl (some (.int 1)))) none
        | none => none) none = _
    have hn1 := hn1 k hk
    rw [Nat.add_sub_cancel] at hn1
    rw [hlay, hlen, Nat.beq_refl, cond_true, hn1]
    cases v1 with
    | inl v =>
      show (pm_fn (pc + 3) fun q => pm_x X k (d' + 1) h1 m q ls (v.toList ++ rest)) = _
      rw [pm_fn_eq]
    | inr u => rfl
  rcases HK h1 v1 hQ1 with ⟨hv, hQ⟩ | ⟨w, hw, n2, o2, hQ2, hn2⟩
  · have hv : v1 = .inr () := hv
    subst hv
    refine ⟨n1 + 1, (h1, .inl (some (.int 1))), hQ, fun n hn' => ?_⟩
    obtain ⟨k, rfl⟩ : ∃ k, n = k + 1 := ⟨n - 1, by omega⟩
    exact key k (by omega)
  · have hw : v1 = .inl w := hw
    subst hw
    refine ⟨max n1 n2 + 1, o2, hQ2, fun n hn' => ?_⟩
    obtain ⟨k, rfl⟩ : ∃ k, n = k + 1 := ⟨n - 1, by omega⟩
    exact (key k (by omega)).trans (hn2 k (by omega))
theorem pw_iVh {ix m' nb ci a : Nat} {As rest fs : List Value} {ih : pm_I} (hm : Nat.beq m 309 = false) (hl : pm_get (pm_lnk 13) ix = some (1, m', nb, ci)) (hp : pm_pop nb st [] = some (.ref a :: As, rest)) (h8 : pm_cat8 rest = true) (hc : pm_cell h a = some (.inr (ci, fs))) : pm_dsp X (.invokevirtual ix) ih d h m 13 pc len ls st = pm_call ih d h m pc ls m' (.ref a :: As) rest true := by
  show pm_gInv X 1 ix ih d h m 13 pc len ls st = _
  unfold pm_gInv
  rw [hl]
  show (match pm_pop nb st [] with
      | some (As, rest) => cond (pm_cat8 rest) (pm_gC 1 ih d h m 13 pc ls m' ci As rest) none
      | none => none) = _
  rw [hp]
  show cond (pm_cat8 rest) (pm_gC 1 ih d h m 13 pc ls m' ci (.ref a :: As) rest) none = _
  rw [h8, cond_true]
  show (match pm_cell h a with
      | some (.inr (cj, _)) => cond (Nat.beq cj ci) (pm_call ih d h m pc ls m' (.ref a :: As) rest (Nat.beq 13 13 && !Nat.beq m 309)) none
      | _ => none) = _
  rw [hc, hm]
  show cond (Nat.beq ci ci) _ none = _
  rw [Nat.beq_refl]
  rfl
end Ph
end
