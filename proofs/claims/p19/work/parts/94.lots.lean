/-! the model (printed by wip/tool/mall.py) -/
set_option maxHeartbeats 4000000 in
theorem cm_298_r {X : List (Nat × List Value)} {d : Nat} {h : pm_H} (hd : 1 ≤ d) (I : pw_I h) (st : Int) (hst1 : (-2147483648) ≤ st) (hst2 : st ≤ 2147483647) : pw X d h 298 0 [some (pw_i st), none, none] [] (fun h' v => h = h' ∧ ∃ a : Int, v = .inl (some (pw_i a)) ∧ 0 ≤ a ∧ a ≤ 9 ∧ (a = pw_bt st 9)) := by
  have E : pm_ent 298 = some (1, 3, 12, 0, pmc_298) := rfl
  refine pw_ld E (pc' := 1) (st' := [pw_i 0]) rfl (fun _ => rfl) ?_
  refine pw_istn E (pc' := 2) (ls' := [some (pw_i st), some (pw_i 0), none]) rfl rfl rfl rfl ?_
  refine pw_ld E (pc' := 3) (st' := [pw_i 0]) rfl (fun _ => rfl) ?_
  refine pw_istn E (pc' := 4) (ls' := [some (pw_i st), some (pw_i 0), some (pw_i 0)]) rfl rfl rfl rfl ?_
  have L4 : ∀ (n4 : Nat) (k4_1 : Int) (k4_2 : Int), 0 ≤ k4_1 → k4_1 ≤ 9 → 0 ≤ k4_2 → k4_2 ≤ 9 → k4_1 = pw_bt st (k4_2).toNat → k4_1 ≤ k4_2 → (9 - k4_2).toNat = n4 → pw X d h 298 4 [some (pw_i st), some (pw_i k4_1), some (pw_i k4_2)] [] (fun h' v => h = h' ∧ ∃ a : Int, v = .inl (some (pw_i a)) ∧ 0 ≤ a ∧ a ≤ 9 ∧ (a = pw_bt st 9)) := by
    intro n4
    induction n4 using Nat.strongRecOn with
    | ind n4 ih4 =>
      intro k4_1 k4_2 k4_1a k4_1b k4_2a k4_2b hx4_0 hx4_1 hm4
      refine pw_ld E (pc' := 5) (st' := [pw_i k4_2]) rfl (fun _ => rfl) ?_
      refine pw_bip E (pc' := 7) rfl rfl (by decide) ?_
      refine pw_if2 E (pc' := 24) rfl (by decide) (by omega) (by omega) (by decide) (by decide) ?_ ?_
      · intro hc1
        change (9 : Int) ≤ k4_2 at hc1
        refine pw_ld E (pc' := 25) (st' := [pw_i k4_1]) rfl (fun _ => rfl) ?_
        refine pw_iret E rfl ?_
        exact ⟨rfl, ⟨_, rfl, by omega, by omega, (by rw [show (9 : Nat) = (k4_2).toNat by omega]; exact hx4_0)⟩⟩
      · intro hc2
        change ¬ ((9 : Int) ≤ k4_2) at hc2
        refine pw_ld E (pc' := 11) (st' := [pw_i k4_1]) rfl (fun _ => rfl) ?_
        refine pw_ld E (pc' := 12) (st' := [pw_i st, pw_i k4_1]) rfl (fun _ => rfl) ?_
        refine pw_ld E (pc' := 13) (st' := [pw_i k4_2, pw_i st, pw_i k4_1]) rfl (fun _ => rfl) ?_
        refine pw_iiE (f := fun x y => x >>> (y &&& 31)) (c := pw_sr st k4_2) E (pc' := 14) rfl (fun _ => rfl) rfl ?_
        have hp3 := pw_sr_r st k4_2
        refine pw_ld E (pc' := 15) (st' := [pw_i 1, pw_i (pw_sr st k4_2), pw_i k4_1]) rfl (fun _ => rfl) ?_
        refine pw_iiE (f := fun x y => x &&& y) (c := pw_an (pw_sr st k4_2) 1) E (pc' := 16) rfl (fun _ => rfl) rfl ?_
        have hp4 := pw_an_r (pw_sr st k4_2)
        refine pw_add E (pc' := 17) rfl rfl ?_
        refine pw_istn E (pc' := 18) (ls' := [some (pw_i st), some (pw_i (k4_1 + (pw_an (pw_sr st k4_2) 1))), some (pw_i k4_2)]) rfl rfl rfl rfl ?_
        refine pw_inc E (pc' := 21) (ls' := [some (pw_i st), some (pw_i (k4_1 + (pw_an (pw_sr st k4_2) 1))), some (pw_i (k4_2 + 1))]) rfl rfl rfl rfl ?_
        refine pw_goto E (pc' := 4) rfl (by decide) ?_
        exact ih4 _ (by omega) (k4_1 + (pw_an (pw_sr st k4_2) 1)) (k4_2 + 1)  (by omega) (by omega) (by omega) (by omega) (by rw [pw_btS (by omega)]; omega) (by omega) rfl
  exact L4 _ (0) (0)  (by omega) (by omega) (by omega) (by omega) rfl (by omega) rfl
set_option maxHeartbeats 4000000 in
theorem cm_214_r {X : List (Nat × List Value)} {d : Nat} {h : pm_H} (hd : 1 ≤ d) (I : pw_I h) (k : Int) (hk1 : 0 ≤ k) (hk2 : k ≤ 23) (b : Int) (hb1 : 0 ≤ b) (hb2 : b ≤ 11) (e : Int) (he1 : 0 ≤ e) (he2 : e ≤ 11) : pw X d h 214 0 [some (.ref 141), some (pw_i k), some (pw_i b), some (pw_i e)] [] (fun h' v => h = h' ∧ ∃ a : Int, v = .inl (some (pw_i a)) ∧ 0 ≤ a ∧ a ≤ 1 ∧ (a = pw_cd h k b e)) := by
  have E : pm_ent 214 = some (4, 4, 12, 1, pmc_214) := rfl
  refine pw_ld E (pc' := 1) (st' := [.ref 141]) rfl (fun _ => rfl) ?_
  refine pw_getR (b := 147) I E (c := 125) (k := 10) (pc' := 4) rfl rfl rfl rfl rfl rfl rfl ?_
  refine pw_ld E (pc' := 5) (st' := [pw_i k, .ref 147]) rfl (fun _ => rfl) ?_
  refine pw_ald2 I E (c := 131) (pc' := 6) rfl rfl rfl (by decide) rfl (by decide) (by omega) (by omega) rfl (fun hf1a hf1b => ?_)
  refine pw_if E (pc' := 41) rfl (by decide) (by omega) (by omega) ?_ ?_
  · intro hc2
    change pw_g h 131 (k.toNat) = (0 : Int) at hc2
    refine pw_ld E (pc' := 42) (st' := [pw_i 0]) rfl (fun _ => rfl) ?_
    refine pw_zret E rfl (by omega) ?_
    exact ⟨rfl, ⟨_, rfl, by omega, by omega, (by unfold pw_cd; first | exact (if_pos ⟨by omega, by omega, by omega⟩).symm | exact (if_neg (fun q => by omega)).symm)⟩⟩
  · intro hc3
    change ¬ (pw_g h 131 (k.toNat) = (0 : Int)) at hc3
    refine pw_ld E (pc' := 10) (st' := [.ref 141]) rfl (fun _ => rfl) ?_
    refine pw_getR (b := 154) I E (c := 125) (k := 18) (pc' := 13) rfl rfl rfl rfl rfl rfl rfl ?_
    refine pw_bip E (pc' := 15) rfl rfl (by decide) ?_
    refine pw_ld E (pc' := 16) (st' := [pw_i k, pw_i 12, .ref 154]) rfl (fun _ => rfl) ?_
    refine pw_mul E (pc' := 17) rfl rfl ?_
    refine pw_ld E (pc' := 18) (st' := [pw_i b, pw_i (12 * k), .ref 154]) rfl (fun _ => rfl) ?_
    refine pw_add E (pc' := 19) rfl rfl ?_
    refine pw_ald2 I E (c := 138) (pc' := 20) rfl rfl rfl (by decide) rfl (by decide) (by omega) (by omega) rfl (fun hf4a hf4b => ?_)
    refine pw_if E (pc' := 41) rfl (by decide) (by omega) (by omega) ?_ ?_
    · intro hc5
      change pw_g h 138 (((12 * k) + b).toNat) = (0 : Int) at hc5
      refine pw_ld E (pc' := 42) (st' := [pw_i 0]) rfl (fun _ => rfl) ?_
      refine pw_zret E rfl (by omega) ?_
      exact ⟨rfl, ⟨_, rfl, by omega, by omega, (by unfold pw_cd; first | exact (if_pos ⟨by omega, by omega, by omega⟩).symm | exact (if_neg (fun q => by omega)).symm)⟩⟩
    · intro hc6
      change ¬ (pw_g h 138 (((12 * k) + b).toNat) = (0 : Int)) at hc6
      refine pw_ld E (pc' := 24) (st' := [.ref 141]) rfl (fun _ => rfl) ?_
      refine pw_getR (b := 154) I E (c := 125) (k := 18) (pc' := 27) rfl rfl rfl rfl rfl rfl rfl ?_
      refine pw_bip E (pc' := 29) rfl rfl (by decide) ?_
      refine pw_ld E (pc' := 30) (st' := [pw_i k, pw_i 12, .ref 154]) rfl (fun _ => rfl) ?_
      refine pw_mul E (pc' := 31) rfl rfl ?_
      refine pw_ld E (pc' := 32) (st' := [pw_i e, pw_i (12 * k), .ref 154]) rfl (fun _ => rfl) ?_
      refine pw_add E (pc' := 33) rfl rfl ?_
      refine pw_ald2 I E (c := 138) (pc' := 34) rfl rfl rfl (by decide) rfl (by decide) (by omega) (by omega) rfl (fun hf7a hf7b => ?_)
      refine pw_if E (pc' := 41) rfl (by decide) (by omega) (by omega) ?_ ?_
      · intro hc8
        change pw_g h 138 (((12 * k) + e).toNat) = (0 : Int) at hc8
        refine pw_ld E (pc' := 42) (st' := [pw_i 0]) rfl (fun _ => rfl) ?_
        refine pw_zret E rfl (by omega) ?_
        exact ⟨rfl, ⟨_, rfl, by omega, by omega, (by unfold pw_cd; first | exact (if_pos ⟨by omega, by omega, by omega⟩).symm | exact (if_neg (fun q => by omega)).symm)⟩⟩
      · intro hc9
        change ¬ (pw_g h 138 (((12 * k) + e).toNat) = (0 : Int)) at hc9
        refine pw_ld E (pc' := 38) (st' := [pw_i 1]) rfl (fun _ => rfl) ?_
        refine pw_goto E (pc' := 42) rfl (by decide) ?_
        refine pw_zret E rfl (by omega) ?_
        exact ⟨rfl, ⟨_, rfl, by omega, by omega, (by unfold pw_cd; first | exact (if_pos ⟨by omega, by omega, by omega⟩).symm | exact (if_neg (fun q => by omega)).symm)⟩⟩
set_option maxHeartbeats 4000000 in
theorem cm_220_r {X : List (Nat × List Value)} {d : Nat} {h : pm_H} (hd : 1 ≤ d) (I : pw_I h) (z : Int) (hz1 : 0 ≤ z) (hz2 : z ≤ 1) (ch : Int64) (hp0 : pw_gm h 125 27 + pw_gm h 125 29 ≤ 23) (hp1 : 0 ≤ pw_gm h 125 27) (hp2 : 0 ≤ pw_gm h 125 29) : pw X d h 220 0 [some (.ref 141), some (pw_i z), some (.long ch), none] [] (fun h' v => pw_I h' ∧ pw_E [125] h h' ∧ (pw_gm h' 125 27 = pw_gm h 125 27 + z ∧ pw_gm h' 125 29 = pw_gm h 125 29 + 1 - z) ∧ (v = .inl none)) := by
  have E : pm_ent 220 = some (3, 4, 12, 4, pmc_220) := rfl
  have E0 : pw_E [125] h h := pw_E.rf _ _
  refine pw_ld E (pc' := 1) (st' := [.ref 141]) rfl (fun _ => rfl) ?_
  refine pw_ld E (pc' := 2) (st' := [.ref 141, .ref 141]) rfl (fun _ => rfl) ?_
  refine pw_getL I E (c := 125) (k := 26) (pc' := 5) rfl rfl rfl rfl rfl rfl ?_
  refine pw_ld E (pc' := 6) (st' := [pw_i z, .long (pw_gl h 125 26), .ref 141]) rfl (fun _ => rfl) ?_
  refine pw_if E (pc' := 13) rfl (by decide) (by omega) (by omega) ?_ ?_
  · intro hc1
    change z = (0 : Int) at hc1
    refine pw_ld E (pc' := 14) (st' := [.long (Int64.ofInt 0), .long (pw_gl h 125 26), .ref 141]) rfl (fun _ => rfl) ?_
    refine pw_ld E (pc' := 15) (st' := [.long ((pw_gl h 125 26) + (Int64.ofInt 0)), .ref 141]) rfl (fun _ => rfl) ?_
    refine pw_putL I E (c := 125) (k := 26) (pc' := 18) rfl rfl rfl rfl rfl rfl ?_
    intro h2I h2E
    generalize h2w : pw_w h 125 26 (.long ((pw_gl h 125 26) + (Int64.ofInt 0))) = h2 at h2I h2E ⊢
    have h2F := E0.tr (h2E.wk (W' := [125]) (by first | rfl | simp))
    refine pw_ld E (pc' := 19) (st' := [.ref 141]) rfl (fun _ => rfl) ?_
    refine pw_ld E (pc' := 20) (st' := [.ref 141, .ref 141]) rfl (fun _ => rfl) ?_
    have he4 : pw_gm h2 125 27 = pw_gm h 125 27 := by rw [← h2w]; exact pw_gm_ne (by omega)
    refine pw_getM h2I E (c := 125) (k := 27) (pc' := 23) rfl rfl rfl rfl rfl rfl (fun hf3a hf3b => ?_)
    refine pw_ld E (pc' := 24) (st' := [pw_i z, .long (Int64.ofInt (pw_gm h2 125 27)), .ref 141]) rfl (fun _ => rfl) ?_
    refine pw_if E (pc' := 31) rfl (by decide) (by omega) (by omega) ?_ ?_
    · intro hc5
      change z = (0 : Int) at hc5
      refine pw_ld E (pc' := 32) (st' := [.long (Int64.ofInt 0), .long (Int64.ofInt (pw_gm h2 125 27)), .ref 141]) rfl (fun _ => rfl) ?_
      refine pw_ladd E (pc' := 33) rfl rfl ?_
      refine pw_putM h2I E (c := 125) (k := 27) (pc' := 36) rfl rfl rfl rfl (by omega) (by omega) (by omega) (by omega) rfl rfl ?_
      intro h6I h6E
      generalize h6w : pw_w h2 125 27 (.long (Int64.ofInt ((pw_gm h2 125 27) + 0))) = h6 at h6I h6E ⊢
      have h6F := h2F.tr (h6E.wk (W' := [125]) (by first | rfl | simp))
      refine pw_ld E (pc' := 37) (st' := [.ref 141]) rfl (fun _ => rfl) ?_
      refine pw_ld E (pc' := 38) (st' := [.ref 141, .ref 141]) rfl (fun _ => rfl) ?_
      refine pw_getL h6I E (c := 125) (k := 28) (pc' := 41) rfl rfl rfl rfl rfl rfl ?_
      refine pw_ld E (pc' := 42) (st' := [pw_i z, .long (pw_gl h6 125 28), .ref 141]) rfl (fun _ => rfl) ?_
      refine pw_if E (pc' := 49) rfl (by decide) (by omega) (by omega) ?_ ?_
      · intro hc7
        change z = (0 : Int) at hc7
        refine pw_ld E (pc' := 50) (st' := [.long ch, .long (pw_gl h6 125 28), .ref 141]) rfl (fun _ => rfl) ?_
        refine pw_ld E (pc' := 51) (st' := [.long ((pw_gl h6 125 28) + ch), .ref 141]) rfl (fun _ => rfl) ?_
        refine pw_putL h6I E (c := 125) (k := 28) (pc' := 54) rfl rfl rfl rfl rfl rfl ?_
        intro h8I h8E
        generalize h8w : pw_w h6 125 28 (.long ((pw_gl h6 125 28) + ch)) = h8 at h8I h8E ⊢
        have h8F := h6F.tr (h8E.wk (W' := [125]) (by first | rfl | simp))
        refine pw_ld E (pc' := 55) (st' := [.ref 141]) rfl (fun _ => rfl) ?_
        refine pw_ld E (pc' := 56) (st' := [.ref 141, .ref 141]) rfl (fun _ => rfl) ?_
        have he10 : pw_gm h8 125 29 = pw_gm h6 125 29 := by rw [← h8w]; exact pw_gm_ne (by omega)
        have he11 : pw_gm h6 125 29 = pw_gm h2 125 29 := by rw [← h6w]; exact pw_gm_ne (by omega)
        have he12 : pw_gm h2 125 29 = pw_gm h 125 29 := by rw [← h2w]; exact pw_gm_ne (by omega)
        refine pw_getM h8I E (c := 125) (k := 29) (pc' := 59) rfl rfl rfl rfl rfl rfl (fun hf9a hf9b => ?_)
        refine pw_ld E (pc' := 60) (st' := [pw_i z, .long (Int64.ofInt (pw_gm h8 125 29)), .ref 141]) rfl (fun _ => rfl) ?_
        refine pw_if E (pc' := 67) rfl (by decide) (by omega) (by omega) ?_ ?_
        · intro hc13
          change z = (0 : Int) at hc13
          refine pw_ld E (pc' := 68) (st' := [.long (Int64.ofInt 1), .long (Int64.ofInt (pw_gm h8 125 29)), .ref 141]) rfl (fun _ => rfl) ?_
          refine pw_ladd E (pc' := 69) rfl rfl ?_
          refine pw_putM h8I E (c := 125) (k := 29) (pc' := 72) rfl rfl rfl rfl (by omega) (by omega) (by omega) (by omega) rfl rfl ?_
          intro h14I h14E
          generalize h14w : pw_w h8 125 29 (.long (Int64.ofInt ((pw_gm h8 125 29) + 1))) = h14 at h14I h14E ⊢
          have h14F := h8F.tr (h14E.wk (W' := [125]) (by first | rfl | simp))
          have he15 : pw_gm h14 125 27 = pw_gm h8 125 27 := by rw [← h14w]; exact pw_gm_ne (by omega)
          have he16 : pw_gm h8 125 27 = pw_gm h6 125 27 := by rw [← h8w]; exact pw_gm_ne (by omega)
          have he17 : pw_gm h6 125 27 = (pw_gm h2 125 27) + 0 := by rw [← h6w]; exact pw_gm_eq (c := 125) (k := 27) h2I rfl rfl (by omega) (by omega)
          have he18 : pw_gm h14 125 29 = (pw_gm h8 125 29) + 1 := by rw [← h14w]; exact pw_gm_eq (c := 125) (k := 29) h8I rfl rfl (by omega) (by omega)
          refine pw_vret E rfl ?_
          exact ⟨h14I, h14F, ⟨by omega, rfl⟩⟩
        · intro hc19
          change ¬ (z = (0 : Int)) at hc19
          exfalso; omega
      · intro hc20
        change ¬ (z = (0 : Int)) at hc20
        exfalso; omega
    · intro hc21
      change ¬ (z = (0 : Int)) at hc21
      exfalso; omega
  · intro hc22
    change ¬ (z = (0 : Int)) at hc22
    refine pw_ld E (pc' := 10) (st' := [.long ch, .long (pw_gl h 125 26), .ref 141]) rfl (fun _ => rfl) ?_
    refine pw_goto E (pc' := 14) rfl (by decide) ?_
    refine pw_ld E (pc' := 15) (st' := [.long ((pw_gl h 125 26) + ch), .ref 141]) rfl (fun _ => rfl) ?_
    refine pw_putL I E (c := 125) (k := 26) (pc' := 18) rfl rfl rfl rfl rfl rfl ?_
    intro h23I h23E
    generalize h23w : pw_w h 125 26 (.long ((pw_gl h 125 26) + ch)) = h23 at h23I h23E ⊢
    have h23F := E0.tr (h23E.wk (W' := [125]) (by first | rfl | simp))
    refine pw_ld E (pc' := 19) (st' := [.ref 141]) rfl (fun _ => rfl) ?_
    refine pw_ld E (pc' := 20) (st' := [.ref 141, .ref 141]) rfl (fun _ => rfl) ?_
    have he25 : pw_gm h23 125 27 = pw_gm h 125 27 := by rw [← h23w]; exact pw_gm_ne (by omega)
    refine pw_getM h23I E (c := 125) (k := 27) (pc' := 23) rfl rfl rfl rfl rfl rfl (fun hf24a hf24b => ?_)
    refine pw_ld E (pc' := 24) (st' := [pw_i z, .long (Int64.ofInt (pw_gm h23 125 27)), .ref 141]) rfl (fun _ => rfl) ?_
    refine pw_if E (pc' := 31) rfl (by decide) (by omega) (by omega) ?_ ?_
    · intro hc26
      change z = (0 : Int) at hc26
      exfalso; omega
    · intro hc27
      change ¬ (z = (0 : Int)) at hc27
      refine pw_ld E (pc' := 28) (st' := [.long (Int64.ofInt 1), .long (Int64.ofInt (pw_gm h23 125 27)), .ref 141]) rfl (fun _ => rfl) ?_
      refine pw_goto E (pc' := 32) rfl (by decide) ?_
      refine pw_ladd E (pc' := 33) rfl rfl ?_
      refine pw_putM h23I E (c := 125) (k := 27) (pc' := 36) rfl rfl rfl rfl (by omega) (by omega) (by omega) (by omega) rfl rfl ?_
      intro h28I h28E
      generalize h28w : pw_w h23 125 27 (.long (Int64.ofInt ((pw_gm h23 125 27) + 1))) = h28 at h28I h28E ⊢
      have h28F := h23F.tr (h28E.wk (W' := [125]) (by first | rfl | simp))
      refine pw_ld E (pc' := 37) (st' := [.ref 141]) rfl (fun _ => rfl) ?_
      refine pw_ld E (pc' := 38) (st' := [.ref 141, .ref 141]) rfl (fun _ => rfl) ?_
      refine pw_getL h28I E (c := 125) (k := 28) (pc' := 41) rfl rfl rfl rfl rfl rfl ?_
      refine pw_ld E (pc' := 42) (st' := [pw_i z, .long (pw_gl h28 125 28), .ref 141]) rfl (fun _ => rfl) ?_
      refine pw_if E (pc' := 49) rfl (by decide) (by omega) (by omega) ?_ ?_
      · intro hc29
        change z = (0 : Int) at hc29
        exfalso; omega
      · intro hc30
        change ¬ (z = (0 : Int)) at hc30
        refine pw_ld E (pc' := 46) (st' := [.long (Int64.ofInt 0), .long (pw_gl h28 125 28), .ref 141]) rfl (fun _ => rfl) ?_
        refine pw_goto E (pc' := 50) rfl (by decide) ?_
        refine pw_ld E (pc' := 51) (st' := [.long ((pw_gl h28 125 28) + (Int64.ofInt 0)), .ref 141]) rfl (fun _ => rfl) ?_
        refine pw_putL h28I E (c := 125) (k := 28) (pc' := 54) rfl rfl rfl rfl rfl rfl ?_
        intro h31I h31E
        generalize h31w : pw_w h28 125 28 (.long ((pw_gl h28 125 28) + (Int64.ofInt 0))) = h31 at h31I h31E ⊢
        have h31F := h28F.tr (h31E.wk (W' := [125]) (by first | rfl | simp))
        refine pw_ld E (pc' := 55) (st' := [.ref 141]) rfl (fun _ => rfl) ?_
        refine pw_ld E (pc' := 56) (st' := [.ref 141, .ref 141]) rfl (fun _ => rfl) ?_
        have he33 : pw_gm h31 125 29 = pw_gm h28 125 29 := by rw [← h31w]; exact pw_gm_ne (by omega)
        have he34 : pw_gm h28 125 29 = pw_gm h23 125 29 := by rw [← h28w]; exact pw_gm_ne (by omega)
        have he35 : pw_gm h23 125 29 = pw_gm h 125 29 := by rw [← h23w]; exact pw_gm_ne (by omega)
        refine pw_getM h31I E (c := 125) (k := 29) (pc' := 59) rfl rfl rfl rfl rfl rfl (fun hf32a hf32b => ?_)
        refine pw_ld E (pc' := 60) (st' := [pw_i z, .long (Int64.ofInt (pw_gm h31 125 29)), .ref 141]) rfl (fun _ => rfl) ?_
        refine pw_if E (pc' := 67) rfl (by decide) (by omega) (by omega) ?_ ?_
        · intro hc36
          change z = (0 : Int) at hc36
          exfalso; omega
        · intro hc37
          change ¬ (z = (0 : Int)) at hc37
          refine pw_ld E (pc' := 64) (st' := [.long (Int64.ofInt 0), .long (Int64.ofInt (pw_gm h31 125 29)), .ref 141]) rfl (fun _ => rfl) ?_
          refine pw_goto E (pc' := 68) rfl (by decide) ?_
          refine pw_ladd E (pc' := 69) rfl rfl ?_
          refine pw_putM h31I E (c := 125) (k := 29) (pc' := 72) rfl rfl rfl rfl (by omega) (by omega) (by omega) (by omega) rfl rfl ?_
          intro h38I h38E
          generalize h38w : pw_w h31 125 29 (.long (Int64.ofInt ((pw_gm h31 125 29) + 0))) = h38 at h38I h38E ⊢
          have h38F := h31F.tr (h38E.wk (W' := [125]) (by first | rfl | simp))
          have he39 : pw_gm h38 125 27 = pw_gm h31 125 27 := by rw [← h38w]; exact pw_gm_ne (by omega)
          have he40 : pw_gm h31 125 27 = pw_gm h28 125 27 := by rw [← h31w]; exact pw_gm_ne (by omega)
          have he41 : pw_gm h28 125 27 = (pw_gm h23 125 27) + 1 := by rw [← h28w]; exact pw_gm_eq (c := 125) (k := 27) h23I rfl rfl (by omega) (by omega)
          have he42 : pw_gm h38 125 29 = (pw_gm h31 125 29) + 0 := by rw [← h38w]; exact pw_gm_eq (c := 125) (k := 29) h31I rfl rfl (by omega) (by omega)
          refine pw_vret E rfl ?_
          exact ⟨h38I, h38F, ⟨by omega, rfl⟩⟩
set_option maxHeartbeats 4000000 in
theorem cm_221_r {X : List (Nat × List Value)} {d : Nat} {h : pm_H} (hd : 1 ≤ d) (I : pw_I h)  : pw X d h 221 0 [some (.ref 141)] [] (fun h' v => pw_I h' ∧ pw_E [125] h h' ∧ ∃ a : Int, v = .inl (some (pw_i a)) ∧ 0 ≤ a ∧ a ≤ 1 ∧ (((a = 1 ∧ 1 ≤ pw_gm h' 125 25 ∧ pw_gm h' 125 25 ≤ 576) ∨ a = 0) ∧ pw_gm h' 125 27 = pw_gm h 125 27 ∧ pw_gm h' 125 29 = pw_gm h 125 29)) := by
  have E : pm_ent 221 = some (1, 1, 12, 1, pmc_221) := rfl
  have E0 : pw_E [125] h h := pw_E.rf _ _
  refine pw_ld E (pc' := 1) (st' := [.ref 141]) rfl (fun _ => rfl) ?_
  refine pw_ld E (pc' := 2) (st' := [.ref 141, .ref 141]) rfl (fun _ => rfl) ?_
  refine pw_getL I E (c := 125) (k := 26) (pc' := 5) rfl rfl rfl rfl rfl rfl ?_
  refine pw_ld E (pc' := 6) (st' := [.ref 141, .long (pw_gl h 125 26), .ref 141]) rfl (fun _ => rfl) ?_
  refine pw_getM I E (c := 125) (k := 29) (pc' := 9) rfl rfl rfl rfl rfl rfl (fun hf1a hf1b => ?_)
  refine pw_ld E (pc' := 10) (st' := [.long ((pw_gl h 125 26) * (Int64.ofInt (pw_gm h 125 29))), .ref 141]) rfl (fun _ => rfl) ?_
  refine pw_ld E (pc' := 11) (st' := [.ref 141, .long ((pw_gl h 125 26) * (Int64.ofInt (pw_gm h 125 29))), .ref 141]) rfl (fun _ => rfl) ?_
  refine pw_getL I E (c := 125) (k := 28) (pc' := 14) rfl rfl rfl rfl rfl rfl ?_
  refine pw_ld E (pc' := 15) (st' := [.ref 141, .long (pw_gl h 125 28), .long ((pw_gl h 125 26) * (Int64.ofInt (pw_gm h 125 29))), .ref 141]) rfl (fun _ => rfl) ?_
  refine pw_getM I E (c := 125) (k := 27) (pc' := 18) rfl rfl rfl rfl rfl rfl (fun hf2a hf2b => ?_)
  refine pw_ld E (pc' := 19) (st' := [.long ((pw_gl h 125 28) * (Int64.ofInt (pw_gm h 125 27))), .long ((pw_gl h 125 26) * (Int64.ofInt (pw_gm h 125 29))), .ref 141]) rfl (fun _ => rfl) ?_
  refine pw_ld E (pc' := 20) (st' := [.long (((pw_gl h 125 26) * (Int64.ofInt (pw_gm h 125 29))) - ((pw_gl h 125 28) * (Int64.ofInt (pw_gm h 125 27)))), .ref 141]) rfl (fun _ => rfl) ?_
  refine pw_putL I E (c := 125) (k := 24) (pc' := 23) rfl rfl rfl rfl rfl rfl ?_
  intro h3I h3E
  generalize h3w : pw_w h 125 24 (.long (((pw_gl h 125 26) * (Int64.ofInt (pw_gm h 125 29))) - ((pw_gl h 125 28) * (Int64.ofInt (pw_gm h 125 27))))) = h3 at h3I h3E ⊢
  have h3F := E0.tr (h3E.wk (W' := [125]) (by first | rfl | simp))
  refine pw_ld E (pc' := 24) (st' := [.ref 141]) rfl (fun _ => rfl) ?_
  refine pw_ld E (pc' := 25) (st' := [.ref 141, .ref 141]) rfl (fun _ => rfl) ?_
  have he5 : pw_gm h3 125 27 = pw_gm h 125 27 := by rw [← h3w]; exact pw_gm_ne (by omega)
  refine pw_getM h3I E (c := 125) (k := 27) (pc' := 28) rfl rfl rfl rfl rfl rfl (fun hf4a hf4b => ?_)
  refine pw_ld E (pc' := 29) (st' := [.ref 141, .long (Int64.ofInt (pw_gm h3 125 27)), .ref 141]) rfl (fun _ => rfl) ?_
  have he7 : pw_gm h3 125 29 = pw_gm h 125 29 := by rw [← h3w]; exact pw_gm_ne (by omega)
  refine pw_getM h3I E (c := 125) (k := 29) (pc' := 32) rfl rfl rfl rfl rfl rfl (fun hf6a hf6b => ?_)
  have hm8 := pw_mulB (a := pw_gm h3 125 27) (b := pw_gm h3 125 29) (A := 24) (B := 24) (by omega) (by omega) (by omega) (by omega)
  refine pw_lmul E (pc' := 33) rfl rfl ?_
  refine pw_putM h3I E (c := 125) (k := 25) (pc' := 36) rfl rfl rfl rfl (by omega) (by omega) (by omega) (by omega) rfl rfl ?_
  intro h9I h9E
  generalize h9w : pw_w h3 125 25 (.long (Int64.ofInt ((pw_gm h3 125 27) * (pw_gm h3 125 29)))) = h9 at h9I h9E ⊢
  have h9F := h3F.tr (h9E.wk (W' := [125]) (by first | rfl | simp))
  refine pw_ld E (pc' := 37) (st' := [.ref 141]) rfl (fun _ => rfl) ?_
  have he11 : pw_gm h9 125 25 = (pw_gm h3 125 27) * (pw_gm h3 125 29) := by rw [← h9w]; exact pw_gm_eq (c := 125) (k := 25) h3I rfl rfl (by omega) (by omega)
  refine pw_getM h9I E (c := 125) (k := 25) (pc' := 40) rfl rfl rfl rfl rfl rfl (fun hf10a hf10b => ?_)
  refine pw_ld E (pc' := 41) (st' := [.long (Int64.ofInt 0), .long (Int64.ofInt (pw_gm h9 125 25))]) rfl (fun _ => rfl) ?_
  refine pw_lcmpC E (pc' := 42) rfl rfl (by omega) (by omega) (by omega) (by omega) (fun c12 hc12 => ?_)
  refine pw_if E (pc' := 49) rfl (by decide) (by omega) (by omega) ?_ ?_
  · intro hc13
    change c12 ≤ (0 : Int) at hc13
    refine pw_ld E (pc' := 50) (st' := [pw_i 0]) rfl (fun _ => rfl) ?_
    have he14 : pw_gm h9 125 27 = pw_gm h3 125 27 := by rw [← h9w]; exact pw_gm_ne (by omega)
    have he15 : pw_gm h9 125 29 = pw_gm h3 125 29 := by rw [← h9w]; exact pw_gm_ne (by omega)
    refine pw_zret E rfl (by omega) ?_
    exact ⟨h9I, h9F, ⟨_, rfl, by omega, by omega, by omega⟩⟩
  · intro hc16
    change ¬ (c12 ≤ (0 : Int)) at hc16
    refine pw_ld E (pc' := 46) (st' := [pw_i 1]) rfl (fun _ => rfl) ?_
    refine pw_goto E (pc' := 50) rfl (by decide) ?_
    have he17 : pw_gm h9 125 27 = pw_gm h3 125 27 := by rw [← h9w]; exact pw_gm_ne (by omega)
    have he18 : pw_gm h9 125 29 = pw_gm h3 125 29 := by rw [← h9w]; exact pw_gm_ne (by omega)
    refine pw_zret E rfl (by omega) ?_
    exact ⟨h9I, h9F, ⟨_, rfl, by omega, by omega, by omega⟩⟩
set_option maxHeartbeats 4000000 in
theorem cm_218_r {X : List (Nat × List Value)} {d : Nat} {h : pm_H} (hd : 4 ≤ d) (I : pw_I h) (b : Int) (hb1 : 0 ≤ b) (hb2 : b ≤ 11) (e : Int) (he1 : 0 ≤ e) (he2 : e ≤ 11) (wo : Int) (hwo1 : (-1) ≤ wo) (hwo2 : wo ≤ (-1)) : pw X d h 218 0 [some (.ref 141), some (pw_i b), some (pw_i e), some (pw_i wo), none] [] (fun h' v => pw_I h' ∧ pw_E [125] h h' ∧ ∃ a : Int, v = .inl (some (pw_i a)) ∧ 0 ≤ a ∧ a ≤ 1 ∧ (((a = 1 ∧ 1 ≤ pw_gm h' 125 25 ∧ pw_gm h' 125 25 ≤ 576) ∨ a = 0) ∧ pw_gm h' 125 27 = pw_c0 h b e 24 ∧ pw_gm h' 125 29 = pw_c1 h b e 24)) := by
  have E : pm_ent 218 = some (4, 5, 12, 1, pmc_218) := rfl
  have E0 : pw_E [125] h h := pw_E.rf _ _
  refine pw_ld E (pc' := 1) (st' := [.ref 141]) rfl (fun _ => rfl) ?_
  obtain ⟨f1l, f1h, -⟩ := pw_obj (c := 125) I rfl
  refine pw_call (m' := 219) (As := [.ref 141]) (rest := []) (ls'' := [some (.ref 141)]) (Nat.le_trans (by decide) hd) E rfl (fun _ => pw_iV rfl rfl rfl rfl (pw_cellI f1h rfl)) (rfl : pm_ent 219 = some (1, 1, 12, 4, pmc_219)) rfl rfl (cm_219 (pw_dp hd (by decide)) I ) ?_
  rintro h2 v3 ⟨h2I, h2E, hq4, rfl⟩
  refine ⟨_, rfl, ?_⟩
  have h2F := E0.tr (h2E.wk (W' := [125]) (by first | rfl | simp))
  show pw X d h2 218 4 [some (.ref 141), some (pw_i b), some (pw_i e), some (pw_i wo), none] [] _
  refine pw_ld E (pc' := 5) (st' := [pw_i 0]) rfl (fun _ => rfl) ?_
  refine pw_ist E (pc' := 7) (ls' := [some (.ref 141), some (pw_i b), some (pw_i e), some (pw_i wo), some (pw_i 0)]) rfl rfl rfl rfl ?_
  have L7 : ∀ (n7 : Nat) (k7_4 : Int) (gh7 : pm_H), pw_I gh7 → pw_E [125] h gh7 → 0 ≤ k7_4 → k7_4 ≤ 24 → pw_gm gh7 125 27 + pw_gm gh7 125 29 ≤ k7_4 → 0 ≤ pw_gm gh7 125 27 → 0 ≤ pw_gm gh7 125 29 → pw_gm gh7 125 27 = pw_c0 h b e (k7_4).toNat → pw_gm gh7 125 29 = pw_c1 h b e (k7_4).toNat → (24 - k7_4).toNat = n7 → pw X d gh7 218 7 [some (.ref 141), some (pw_i b), some (pw_i e), some (pw_i wo), some (pw_i k7_4)] [] (fun h' v => pw_I h' ∧ pw_E [125] h h' ∧ ∃ a : Int, v = .inl (some (pw_i a)) ∧ 0 ≤ a ∧ a ≤ 1 ∧ (((a = 1 ∧ 1 ≤ pw_gm h' 125 25 ∧ pw_gm h' 125 25 ≤ 576) ∨ a = 0) ∧ pw_gm h' 125 27 = pw_c0 h b e 24 ∧ pw_gm h' 125 29 = pw_c1 h b e 24)) := by
    intro n7
    induction n7 using Nat.strongRecOn with
    | ind n7 ih7 =>
      intro k7_4 gh7 I7 E7 k7_4a k7_4b hx7_0 hx7_1 hx7_2 hx7_3 hx7_4 hm7
      refine pw_ld E (pc' := 9) (st' := [pw_i k7_4]) rfl (fun _ => rfl) ?_
      refine pw_bip E (pc' := 11) rfl rfl (by decide) ?_
      refine pw_if2 E (pc' := 65) rfl (by decide) (by omega) (by omega) (by decide) (by decide) ?_ ?_
      · intro hc5
        change (24 : Int) ≤ k7_4 at hc5
        have h24 : (k7_4).toNat = 24 := by omega
        rw [h24] at hx7_3 hx7_4
        refine pw_ld E (pc' := 66) (st' := [.ref 141]) rfl (fun _ => rfl) ?_
        obtain ⟨f6l, f6h, -⟩ := pw_obj (c := 125) I7 rfl
        refine pw_call (m' := 221) (As := [.ref 141]) (rest := []) (ls'' := [some (.ref 141)]) (Nat.le_trans (by decide) hd) E rfl (fun _ => pw_iV rfl rfl rfl rfl (pw_cellI f6h rfl)) (rfl : pm_ent 221 = some (1, 1, 12, 1, pmc_221)) rfl rfl (cm_221_r (pw_dp hd (by decide)) I7 ) ?_
        rintro h7 v8 ⟨h7I, h7E, x9, rfl, hx9a, hx9b, hx9r⟩
        refine ⟨_, rfl, ?_⟩
        have h7F := E7.tr (h7E.wk (W' := [125]) (by first | rfl | simp))
        show pw X d h7 218 69 [some (.ref 141), some (pw_i b), some (pw_i e), some (pw_i wo), some (pw_i k7_4)] [pw_i x9] _
        change ((x9 = 1 ∧ 1 ≤ pw_gm h7 125 25 ∧ pw_gm h7 125 25 ≤ 576) ∨ x9 = 0) ∧ pw_gm h7 125 27 = pw_gm gh7 125 27 ∧ pw_gm h7 125 29 = pw_gm gh7 125 29 at hx9r
        refine pw_zret E rfl (by omega) ?_
        exact ⟨h7I, h7F, ⟨_, rfl, by omega, by omega, by omega⟩⟩
      · intro hc10
        change ¬ ((24 : Int) ≤ k7_4) at hc10
        refine pw_ld E (pc' := 16) (st' := [pw_i k7_4]) rfl (fun _ => rfl) ?_
        refine pw_ld E (pc' := 17) (st' := [pw_i wo, pw_i k7_4]) rfl (fun _ => rfl) ?_
        refine pw_if2 E (pc' := 59) rfl (by decide) (by omega) (by omega) (by omega) (by omega) ?_ ?_
        · intro hc11
          change k7_4 = wo at hc11
          exfalso; omega
        · intro hc12
          change ¬ (k7_4 = wo) at hc12
          have hcE := pw_cdE I E7 rfl k7_4 b e
          have hcS := pw_cS (h := h) (b := b) (e := e) (k := k7_4) (by omega)
          have hcR := pw_cd_r h k7_4 b e
          refine pw_ld E (pc' := 21) (st' := [.ref 141]) rfl (fun _ => rfl) ?_
          refine pw_ld E (pc' := 23) (st' := [pw_i k7_4, .ref 141]) rfl (fun _ => rfl) ?_
          refine pw_ld E (pc' := 24) (st' := [pw_i b, pw_i k7_4, .ref 141]) rfl (fun _ => rfl) ?_
          refine pw_ld E (pc' := 25) (st' := [pw_i e, pw_i b, pw_i k7_4, .ref 141]) rfl (fun _ => rfl) ?_
          obtain ⟨f13l, f13h, -⟩ := pw_obj (c := 125) I7 rfl
          refine pw_call (m' := 214) (As := [.ref 141, pw_i k7_4, pw_i b, pw_i e]) (rest := []) (ls'' := [some (.ref 141), some (pw_i k7_4), some (pw_i b), some (pw_i e)]) (Nat.le_trans (by decide) hd) E rfl (fun _ => pw_iV rfl rfl rfl rfl (pw_cellI f13h rfl)) (rfl : pm_ent 214 = some (4, 4, 12, 1, pmc_214)) rfl rfl (cm_214_r (pw_dp hd (by decide)) I7 (k7_4) (by omega) (by omega) (b) (by omega) (by omega) (e) (by omega) (by omega)) ?_
          rintro u15 v14 ⟨rfl, x16, rfl, hx16a, hx16b, hx16r⟩
          refine ⟨_, rfl, ?_⟩
          show pw X d gh7 218 28 [some (.ref 141), some (pw_i b), some (pw_i e), some (pw_i wo), some (pw_i k7_4)] [pw_i x16] _
          change x16 = pw_cd gh7 k7_4 b e at hx16r
          rcases (by omega : x16 = 1 ∨ x16 = 0) with hb17 | hb17
          · skip
            refine pw_if E (pc' := 59) rfl (by decide) (by omega) (by omega) ?_ ?_
            · intro hc18
              change x16 = (0 : Int) at hc18
              exfalso; omega
            · intro hc19
              change ¬ (x16 = (0 : Int)) at hc19
              refine pw_ld E (pc' := 32) (st' := [.ref 141]) rfl (fun _ => rfl) ?_
              refine pw_ld E (pc' := 33) (st' := [.ref 141, .ref 141]) rfl (fun _ => rfl) ?_
              refine pw_getR (b := 148) I7 E (c := 125) (k := 11) (pc' := 36) rfl rfl rfl rfl rfl rfl rfl ?_
              refine pw_ld E (pc' := 38) (st' := [pw_i k7_4, .ref 148, .ref 141]) rfl (fun _ => rfl) ?_
              refine pw_ald2 I7 E (c := 132) (pc' := 39) rfl rfl rfl (by decide) rfl (by decide) (by omega) (by omega) rfl (fun hf20a hf20b => ?_)
              refine pw_if E (pc' := 46) rfl (by decide) (by omega) (by omega) ?_ ?_
              · intro hc21
                change pw_g gh7 132 (k7_4.toNat) ≠ (0 : Int) at hc21
                refine pw_ld E (pc' := 47) (st' := [pw_i 0, .ref 141]) rfl (fun _ => rfl) ?_
                refine pw_ld E (pc' := 48) (st' := [.ref 141, pw_i 0, .ref 141]) rfl (fun _ => rfl) ?_
                refine pw_ld E (pc' := 50) (st' := [pw_i k7_4, .ref 141, pw_i 0, .ref 141]) rfl (fun _ => rfl) ?_
                refine pw_ld E (pc' := 51) (st' := [pw_i b, pw_i k7_4, .ref 141, pw_i 0, .ref 141]) rfl (fun _ => rfl) ?_
                refine pw_ld E (pc' := 52) (st' := [pw_i e, pw_i b, pw_i k7_4, .ref 141, pw_i 0, .ref 141]) rfl (fun _ => rfl) ?_
                obtain ⟨f22l, f22h, -⟩ := pw_obj (c := 125) I7 rfl
                refine pw_call (m' := 215) (As := [.ref 141, pw_i k7_4, pw_i b, pw_i e]) (rest := [pw_i 0, .ref 141]) (ls'' := [some (.ref 141), some (pw_i k7_4), some (pw_i b), some (pw_i e)]) (Nat.le_trans (by decide) hd) E rfl (fun _ => pw_iV rfl rfl rfl rfl (pw_cellI f22h rfl)) (rfl : pm_ent 215 = some (4, 4, 12, 0, pmc_215)) rfl rfl (cm_215 (pw_dp hd (by decide)) I7 (k7_4) (by omega) (by omega) (b) (by omega) (by omega) (e) (by omega) (by omega)) ?_
                rintro u24 v23 ⟨rfl, x25, rfl, hx25a, hx25b⟩
                refine ⟨_, rfl, ?_⟩
                show pw X d gh7 218 55 [some (.ref 141), some (pw_i b), some (pw_i e), some (pw_i wo), some (pw_i k7_4)] [pw_i x25, pw_i 0, .ref 141] _
                refine pw_i2l E (pc' := 56) rfl rfl (by omega) (by omega) ?_
                obtain ⟨f26l, f26h, -⟩ := pw_obj (c := 125) I7 rfl
                refine pw_call (m' := 220) (As := [.ref 141, pw_i 0, .long (Int64.ofInt x25)]) (rest := []) (ls'' := [some (.ref 141), some (pw_i 0), some (.long (Int64.ofInt x25)), none]) (Nat.le_trans (by decide) hd) E rfl (fun _ => pw_iV rfl rfl rfl rfl (pw_cellI f26h rfl)) (rfl : pm_ent 220 = some (3, 4, 12, 4, pmc_220)) rfl rfl (cm_220_r (pw_dp hd (by decide)) I7 (0) (by omega) (by omega) (Int64.ofInt x25) (by omega) (by omega) (by omega)) ?_
                rintro h27 v28 ⟨h27I, h27E, hq29, rfl⟩
                refine ⟨_, rfl, ?_⟩
                have h27F := E7.tr (h27E.wk (W' := [125]) (by first | rfl | simp))
                show pw X d h27 218 59 [some (.ref 141), some (pw_i b), some (pw_i e), some (pw_i wo), some (pw_i k7_4)] [] _
                refine pw_inc E (pc' := 62) (ls' := [some (.ref 141), some (pw_i b), some (pw_i e), some (pw_i wo), some (pw_i (k7_4 + 1))]) rfl rfl rfl rfl ?_
                refine pw_goto E (pc' := 7) rfl (by decide) ?_
                exact ih7 _ (by omega) (k7_4 + 1) h27 h27I h27F (by omega) (by omega) (by omega) (by omega) (by omega) (by omega) (by omega) rfl
              · intro hc30
                change ¬ (pw_g gh7 132 (k7_4.toNat) ≠ (0 : Int)) at hc30
                refine pw_ld E (pc' := 43) (st' := [pw_i 1, .ref 141]) rfl (fun _ => rfl) ?_
                refine pw_goto E (pc' := 47) rfl (by decide) ?_
                refine pw_ld E (pc' := 48) (st' := [.ref 141, pw_i 1, .ref 141]) rfl (fun _ => rfl) ?_
                refine pw_ld E (pc' := 50) (st' := [pw_i k7_4, .ref 141, pw_i 1, .ref 141]) rfl (fun _ => rfl) ?_
                refine pw_ld E (pc' := 51) (st' := [pw_i b, pw_i k7_4, .ref 141, pw_i 1, .ref 141]) rfl (fun _ => rfl) ?_
                refine pw_ld E (pc' := 52) (st' := [pw_i e, pw_i b, pw_i k7_4, .ref 141, pw_i 1, .ref 141]) rfl (fun _ => rfl) ?_
                obtain ⟨f31l, f31h, -⟩ := pw_obj (c := 125) I7 rfl
                refine pw_call (m' := 215) (As := [.ref 141, pw_i k7_4, pw_i b, pw_i e]) (rest := [pw_i 1, .ref 141]) (ls'' := [some (.ref 141), some (pw_i k7_4), some (pw_i b), some (pw_i e)]) (Nat.le_trans (by decide) hd) E rfl (fun _ => pw_iV rfl rfl rfl rfl (pw_cellI f31h rfl)) (rfl : pm_ent 215 = some (4, 4, 12, 0, pmc_215)) rfl rfl (cm_215 (pw_dp hd (by decide)) I7 (k7_4) (by omega) (by omega) (b) (by omega) (by omega) (e) (by omega) (by omega)) ?_
                rintro u33 v32 ⟨rfl, x34, rfl, hx34a, hx34b⟩
                refine ⟨_, rfl, ?_⟩
                show pw X d gh7 218 55 [some (.ref 141), some (pw_i b), some (pw_i e), some (pw_i wo), some (pw_i k7_4)] [pw_i x34, pw_i 1, .ref 141] _
                refine pw_i2l E (pc' := 56) rfl rfl (by omega) (by omega) ?_
                obtain ⟨f35l, f35h, -⟩ := pw_obj (c := 125) I7 rfl
                refine pw_call (m' := 220) (As := [.ref 141, pw_i 1, .long (Int64.ofInt x34)]) (rest := []) (ls'' := [some (.ref 141), some (pw_i 1), some (.long (Int64.ofInt x34)), none]) (Nat.le_trans (by decide) hd) E rfl (fun _ => pw_iV rfl rfl rfl rfl (pw_cellI f35h rfl)) (rfl : pm_ent 220 = some (3, 4, 12, 4, pmc_220)) rfl rfl (cm_220_r (pw_dp hd (by decide)) I7 (1) (by omega) (by omega) (Int64.ofInt x34) (by omega) (by omega) (by omega)) ?_
                rintro h36 v37 ⟨h36I, h36E, hq38, rfl⟩
                refine ⟨_, rfl, ?_⟩
                have h36F := E7.tr (h36E.wk (W' := [125]) (by first | rfl | simp))
                show pw X d h36 218 59 [some (.ref 141), some (pw_i b), some (pw_i e), some (pw_i wo), some (pw_i k7_4)] [] _
                refine pw_inc E (pc' := 62) (ls' := [some (.ref 141), some (pw_i b), some (pw_i e), some (pw_i wo), some (pw_i (k7_4 + 1))]) rfl rfl rfl rfl ?_
                refine pw_goto E (pc' := 7) rfl (by decide) ?_
                exact ih7 _ (by omega) (k7_4 + 1) h36 h36I h36F (by omega) (by omega) (by omega) (by omega) (by omega) (by omega) (by omega) rfl
          · skip
            refine pw_if E (pc' := 59) rfl (by decide) (by omega) (by omega) ?_ ?_
            · intro hc40
              change x16 = (0 : Int) at hc40
              refine pw_inc E (pc' := 62) (ls' := [some (.ref 141), some (pw_i b), some (pw_i e), some (pw_i wo), some (pw_i (k7_4 + 1))]) rfl rfl rfl rfl ?_
              refine pw_goto E (pc' := 7) rfl (by decide) ?_
              exact ih7 _ (by omega) (k7_4 + 1) gh7 I7 E7 (by omega) (by omega) (by omega) (by omega) (by omega) (by omega) (by omega) rfl
            · intro hc41
              change ¬ (x16 = (0 : Int)) at hc41
              exfalso; omega
  exact L7 _ (0) h2 h2I h2F (by omega) (by omega) (by omega) (by omega) (by omega) (by show _ = (0 : Int); omega) (by show _ = (0 : Int); omega) rfl
set_option maxHeartbeats 4000000 in
theorem cm_295_r {X : List (Nat × List Value)} {d : Nat} {h : pm_H} (hd : 5 ≤ d) (I : pw_I h) (b : Int) (hb1 : (-2147483648) ≤ b) (hb2 : b ≤ 2147483647) (e : Int) (he1 : (-2147483648) ≤ e) (he2 : e ≤ 2147483647) : pw X d h 295 0 [some (.ref 141), some (pw_i b), some (pw_i e), none, none, none] [] (fun h' v => pw_I h' ∧ pw_E [125, 164, 165] h h' ∧ ∃ a : Int, v = .inl (some (pw_i a)) ∧ 0 ≤ a ∧ a ≤ 1 ∧ ((a = 1 ∧ pw_gm h' 125 27 ≤ 9 ∧ pw_gm h' 125 29 ≤ 9) ∨ a = 0)) := by
  have E : pm_ent 295 = some (3, 6, 12, 1, pmc_295) := rfl
  have E0 : pw_E [125, 164, 165] h h := pw_E.rf _ _
  refine pw_ld E (pc' := 1) (st' := [pw_i b]) rfl (fun _ => rfl) ?_
  refine pw_ld E (pc' := 2) (st' := [pw_i e, pw_i b]) rfl (fun _ => rfl) ?_
  refine pw_call (m' := 213) (As := [pw_i b, pw_i e]) (rest := []) (ls'' := [some (pw_i b), some (pw_i e)]) (Nat.le_trans (by decide) hd) E rfl (fun _ => pw_iS rfl rfl rfl) (rfl : pm_ent 213 = some (2, 2, 12, 1, pmc_213)) rfl rfl (cm_213 (pw_dp hd (by decide)) I (b) (by omega) (by omega) (e) (by omega) (by omega)) ?_
  rintro u2 v1 ⟨rfl, x3, rfl, hx3a, hx3b, hx3r⟩
  refine ⟨_, rfl, ?_⟩
  show pw X d h 295 5 [some (.ref 141), some (pw_i b), some (pw_i e), none, none, none] [pw_i x3] _
  change (x3 = 1 ∧ 0 ≤ b ∧ b ≤ 11 ∧ 0 ≤ e ∧ e ≤ 11) ∨ x3 = 0 at hx3r
  rcases (by omega : x3 = 1 ∨ x3 = 0) with hb4 | hb4
  · skip
    refine pw_if E (pc' := 40) rfl (by decide) (by omega) (by omega) ?_ ?_
    · intro hc5
      change x3 = (0 : Int) at hc5
      exfalso; omega
    · intro hc6
      change ¬ (x3 = (0 : Int)) at hc6
      refine pw_ld E (pc' := 9) (st' := [.ref 141]) rfl (fun _ => rfl) ?_
      refine pw_ld E (pc' := 10) (st' := [pw_i b, .ref 141]) rfl (fun _ => rfl) ?_
      refine pw_ld E (pc' := 11) (st' := [pw_i e, pw_i b, .ref 141]) rfl (fun _ => rfl) ?_
      refine pw_ld E (pc' := 12) (st' := [pw_i ((-1)), pw_i e, pw_i b, .ref 141]) rfl (fun _ => rfl) ?_
      obtain ⟨f7l, f7h, -⟩ := pw_obj (c := 125) I rfl
      refine pw_call (m' := 218) (As := [.ref 141, pw_i b, pw_i e, pw_i ((-1))]) (rest := []) (ls'' := [some (.ref 141), some (pw_i b), some (pw_i e), some (pw_i ((-1))), none]) (Nat.le_trans (by decide) hd) E rfl (fun _ => pw_iV rfl rfl rfl rfl (pw_cellI f7h rfl)) (rfl : pm_ent 218 = some (4, 5, 12, 1, pmc_218)) rfl rfl (cm_218_r (pw_dp hd (by decide)) I (b) (by omega) (by omega) (e) (by omega) (by omega) ((-1)) (by omega) (by omega)) ?_
      rintro h8 v9 ⟨h8I, h8E, x10, rfl, hx10a, hx10b, hx10r⟩
      refine ⟨_, rfl, ?_⟩
      have h8F := E0.tr (h8E.wk (W' := [125, 164, 165]) (by first | rfl | simp))
      show pw X d h8 295 15 [some (.ref 141), some (pw_i b), some (pw_i e), none, none, none] [pw_i x10] _
      change ((x10 = 1 ∧ 1 ≤ pw_gm h8 125 25 ∧ pw_gm h8 125 25 ≤ 576) ∨ x10 = 0) ∧ pw_gm h8 125 27 = pw_c0 h b e 24 ∧ pw_gm h8 125 29 = pw_c1 h b e 24 at hx10r
      rcases (by omega : x10 = 1 ∨ x10 = 0) with hb11 | hb11
      · skip
        refine pw_if E (pc' := 40) rfl (by decide) (by omega) (by omega) ?_ ?_
        · intro hc12
          change x10 = (0 : Int) at hc12
          exfalso; omega
        · intro hc13
          change ¬ (x10 = (0 : Int)) at hc13
          refine pw_ld E (pc' := 19) (st' := [.ref 141]) rfl (fun _ => rfl) ?_
          refine pw_getM h8I E (c := 125) (k := 27) (pc' := 22) rfl rfl rfl rfl rfl rfl (fun hf14a hf14b => ?_)
          refine pw_ld E (pc' := 25) (st' := [.long (Int64.ofInt 9), .long (Int64.ofInt (pw_gm h8 125 27))]) rfl (fun _ => rfl) ?_
          refine pw_lcmpC E (pc' := 26) rfl rfl (by omega) (by omega) (by omega) (by omega) (fun c15 hc15 => ?_)
          refine pw_if E (pc' := 40) rfl (by decide) (by omega) (by omega) ?_ ?_
          · intro hc16
            change (0 : Int) < c15 at hc16
            refine pw_ld E (pc' := 41) (st' := [pw_i 0]) rfl (fun _ => rfl) ?_
            refine pw_zret E rfl (by omega) ?_
            exact ⟨h8I, h8F, ⟨_, rfl, by omega, by omega, by omega⟩⟩
          · intro hc17
            change ¬ ((0 : Int) < c15) at hc17
            refine pw_ld E (pc' := 30) (st' := [.ref 141]) rfl (fun _ => rfl) ?_
            refine pw_getM h8I E (c := 125) (k := 29) (pc' := 33) rfl rfl rfl rfl rfl rfl (fun hf18a hf18b => ?_)
            refine pw_ld E (pc' := 36) (st' := [.long (Int64.ofInt 9), .long (Int64.ofInt (pw_gm h8 125 29))]) rfl (fun _ => rfl) ?_
            refine pw_lcmpC E (pc' := 37) rfl rfl (by omega) (by omega) (by omega) (by omega) (fun c19 hc19 => ?_)
            refine pw_if E (pc' := 42) rfl (by decide) (by omega) (by omega) ?_ ?_
            · intro hc20
              change c19 ≤ (0 : Int) at hc20
              refine pw_ld E (pc' := 43) (st' := [pw_i 0]) rfl (fun _ => rfl) ?_
              refine pw_istn E (pc' := 44) (ls' := [some (.ref 141), some (pw_i b), some (pw_i e), some (pw_i 0), none, none]) rfl rfl rfl rfl ?_
              refine pw_ld E (pc' := 45) (st' := [pw_i 0]) rfl (fun _ => rfl) ?_
              refine pw_ist E (pc' := 47) (ls' := [some (.ref 141), some (pw_i b), some (pw_i e), some (pw_i 0), some (pw_i 0), none]) rfl rfl rfl rfl ?_
              refine pw_ld E (pc' := 48) (st' := [pw_i 0]) rfl (fun _ => rfl) ?_
              refine pw_ist E (pc' := 50) (ls' := [some (.ref 141), some (pw_i b), some (pw_i e), some (pw_i 0), some (pw_i 0), some (pw_i 0)]) rfl rfl rfl rfl ?_
              have L50 : ∀ (n50 : Nat) (k50_3 : Int) (k50_4 : Int) (k50_5 : Int) (gh50 : pm_H), pw_I gh50 → pw_E [125, 164, 165] h gh50 → 0 ≤ k50_3 → k50_3 ≤ 9 → 0 ≤ k50_4 → k50_4 ≤ 9 → 0 ≤ k50_5 → k50_5 ≤ 24 → k50_3 = pw_c0 h b e (k50_5).toNat → k50_4 = pw_c1 h b e (k50_5).toNat → pw_gm gh50 125 27 = pw_c0 h b e 24 → pw_gm gh50 125 29 = pw_c1 h b e 24 → pw_gm gh50 125 27 ≤ 9 → pw_gm gh50 125 29 ≤ 9 → (24 - k50_5).toNat = n50 → pw X d gh50 295 50 [some (.ref 141), some (pw_i b), some (pw_i e), some (pw_i k50_3), some (pw_i k50_4), some (pw_i k50_5)] [] (fun h' v => pw_I h' ∧ pw_E [125, 164, 165] h h' ∧ ∃ a : Int, v = .inl (some (pw_i a)) ∧ 0 ≤ a ∧ a ≤ 1 ∧ ((a = 1 ∧ pw_gm h' 125 27 ≤ 9 ∧ pw_gm h' 125 29 ≤ 9) ∨ a = 0)) := by
                intro n50
                induction n50 using Nat.strongRecOn with
                | ind n50 ih50 =>
                  intro k50_3 k50_4 k50_5 gh50 I50 E50 k50_3a k50_3b k50_4a k50_4b k50_5a k50_5b hx50_0 hx50_1 hx50_2 hx50_3 hx50_4 hx50_5 hm50
                  refine pw_ld E (pc' := 52) (st' := [pw_i k50_5]) rfl (fun _ => rfl) ?_
                  refine pw_bip E (pc' := 54) rfl rfl (by decide) ?_
                  refine pw_if2 E (pc' := 133) rfl (by decide) (by omega) (by omega) (by decide) (by decide) ?_ ?_
                  · intro hc21
                    change (24 : Int) ≤ k50_5 at hc21
                    refine pw_ld E (pc' := 134) (st' := [pw_i 1]) rfl (fun _ => rfl) ?_
                    refine pw_zret E rfl (by omega) ?_
                    exact ⟨I50, E50, ⟨_, rfl, by omega, by omega, by omega⟩⟩
                  · intro hc22
                    change ¬ ((24 : Int) ≤ k50_5) at hc22
                    have hcE := pw_cdE I E50 rfl k50_5 b e
                    have hcS := pw_cS (h := h) (b := b) (e := e) (k := k50_5) (by omega)
                    have hcR := pw_cd_r h k50_5 b e
                    have hcT := pw_c_top (h := h) (b := b) (e := e) (k := k50_5 + 1) (by omega) (by omega)
                    refine pw_ld E (pc' := 58) (st' := [.ref 141]) rfl (fun _ => rfl) ?_
                    refine pw_ld E (pc' := 60) (st' := [pw_i k50_5, .ref 141]) rfl (fun _ => rfl) ?_
                    refine pw_ld E (pc' := 61) (st' := [pw_i b, pw_i k50_5, .ref 141]) rfl (fun _ => rfl) ?_
                    refine pw_ld E (pc' := 62) (st' := [pw_i e, pw_i b, pw_i k50_5, .ref 141]) rfl (fun _ => rfl) ?_
                    obtain ⟨f23l, f23h, -⟩ := pw_obj (c := 125) I50 rfl
                    refine pw_call (m' := 214) (As := [.ref 141, pw_i k50_5, pw_i b, pw_i e]) (rest := []) (ls'' := [some (.ref 141), some (pw_i k50_5), some (pw_i b), some (pw_i e)]) (Nat.le_trans (by decide) hd) E rfl (fun _ => pw_iV rfl rfl rfl rfl (pw_cellI f23h rfl)) (rfl : pm_ent 214 = some (4, 4, 12, 1, pmc_214)) rfl rfl (cm_214_r (pw_dp hd (by decide)) I50 (k50_5) (by omega) (by omega) (b) (by omega) (by omega) (e) (by omega) (by omega)) ?_
                    rintro u25 v24 ⟨rfl, x26, rfl, hx26a, hx26b, hx26r⟩
                    refine ⟨_, rfl, ?_⟩
                    show pw X d gh50 295 65 [some (.ref 141), some (pw_i b), some (pw_i e), some (pw_i k50_3), some (pw_i k50_4), some (pw_i k50_5)] [pw_i x26] _
                    change x26 = pw_cd gh50 k50_5 b e at hx26r
                    rcases (by omega : x26 = 1 ∨ x26 = 0) with hb27 | hb27
                    · skip
                      refine pw_if E (pc' := 98) rfl (by decide) (by omega) (by omega) ?_ ?_
                      · intro hc28
                        change x26 = (0 : Int) at hc28
                        exfalso; omega
                      · intro hc29
                        change ¬ (x26 = (0 : Int)) at hc29
                        refine pw_ld E (pc' := 69) (st' := [.ref 141]) rfl (fun _ => rfl) ?_
                        refine pw_getR (b := 148) I50 E (c := 125) (k := 11) (pc' := 72) rfl rfl rfl rfl rfl rfl rfl ?_
                        refine pw_ld E (pc' := 74) (st' := [pw_i k50_5, .ref 148]) rfl (fun _ => rfl) ?_
                        refine pw_ald2 I50 E (c := 132) (pc' := 75) rfl rfl rfl (by decide) rfl (by decide) (by omega) (by omega) rfl (fun hf30a hf30b => ?_)
                        refine pw_if E (pc' := 98) rfl (by decide) (by omega) (by omega) ?_ ?_
                        · intro hc31
                          change pw_g gh50 132 (k50_5.toNat) ≠ (0 : Int) at hc31
                          refine pw_ld E (pc' := 99) (st' := [.ref 141]) rfl (fun _ => rfl) ?_
                          refine pw_ld E (pc' := 101) (st' := [pw_i k50_5, .ref 141]) rfl (fun _ => rfl) ?_
                          refine pw_ld E (pc' := 102) (st' := [pw_i b, pw_i k50_5, .ref 141]) rfl (fun _ => rfl) ?_
                          refine pw_ld E (pc' := 103) (st' := [pw_i e, pw_i b, pw_i k50_5, .ref 141]) rfl (fun _ => rfl) ?_
                          obtain ⟨f32l, f32h, -⟩ := pw_obj (c := 125) I50 rfl
                          refine pw_call (m' := 214) (As := [.ref 141, pw_i k50_5, pw_i b, pw_i e]) (rest := []) (ls'' := [some (.ref 141), some (pw_i k50_5), some (pw_i b), some (pw_i e)]) (Nat.le_trans (by decide) hd) E rfl (fun _ => pw_iV rfl rfl rfl rfl (pw_cellI f32h rfl)) (rfl : pm_ent 214 = some (4, 4, 12, 1, pmc_214)) rfl rfl (cm_214_r (pw_dp hd (by decide)) I50 (k50_5) (by omega) (by omega) (b) (by omega) (by omega) (e) (by omega) (by omega)) ?_
                          rintro u34 v33 ⟨rfl, x35, rfl, hx35a, hx35b, hx35r⟩
                          refine ⟨_, rfl, ?_⟩
                          show pw X d gh50 295 106 [some (.ref 141), some (pw_i b), some (pw_i e), some (pw_i k50_3), some (pw_i k50_4), some (pw_i k50_5)] [pw_i x35] _
                          change x35 = pw_cd gh50 k50_5 b e at hx35r
                          rcases (by omega : x35 = 1 ∨ x35 = 0) with hb36 | hb36
                          · skip
                            refine pw_if E (pc' := 127) rfl (by decide) (by omega) (by omega) ?_ ?_
                            · intro hc37
                              change x35 = (0 : Int) at hc37
                              exfalso; omega
                            · intro hc38
                              change ¬ (x35 = (0 : Int)) at hc38
                              refine pw_ld E (pc' := 110) (st' := [.ref 141]) rfl (fun _ => rfl) ?_
                              refine pw_getR (b := 181) I50 E (c := 125) (k := 54) (pc' := 113) rfl rfl rfl rfl rfl rfl rfl ?_
                              refine pw_ld E (pc' := 115) (st' := [pw_i k50_4, .ref 181]) rfl (fun _ => rfl) ?_
                              refine pw_ld E (pc' := 116) (st' := [.ref 141, pw_i k50_4, .ref 181]) rfl (fun _ => rfl) ?_
                              refine pw_ld E (pc' := 118) (st' := [pw_i k50_5, .ref 141, pw_i k50_4, .ref 181]) rfl (fun _ => rfl) ?_
                              refine pw_ld E (pc' := 119) (st' := [pw_i b, pw_i k50_5, .ref 141, pw_i k50_4, .ref 181]) rfl (fun _ => rfl) ?_
                              refine pw_ld E (pc' := 120) (st' := [pw_i e, pw_i b, pw_i k50_5, .ref 141, pw_i k50_4, .ref 181]) rfl (fun _ => rfl) ?_
                              obtain ⟨f39l, f39h, -⟩ := pw_obj (c := 125) I50 rfl
                              refine pw_call (m' := 215) (As := [.ref 141, pw_i k50_5, pw_i b, pw_i e]) (rest := [pw_i k50_4, .ref 181]) (ls'' := [some (.ref 141), some (pw_i k50_5), some (pw_i b), some (pw_i e)]) (Nat.le_trans (by decide) hd) E rfl (fun _ => pw_iV rfl rfl rfl rfl (pw_cellI f39h rfl)) (rfl : pm_ent 215 = some (4, 4, 12, 0, pmc_215)) rfl rfl (cm_215 (pw_dp hd (by decide)) I50 (k50_5) (by omega) (by omega) (b) (by omega) (by omega) (e) (by omega) (by omega)) ?_
                              rintro u41 v40 ⟨rfl, x42, rfl, hx42a, hx42b⟩
                              refine ⟨_, rfl, ?_⟩
                              show pw X d gh50 295 123 [some (.ref 141), some (pw_i b), some (pw_i e), some (pw_i k50_3), some (pw_i k50_4), some (pw_i k50_5)] [pw_i x42, pw_i k50_4, .ref 181] _
                              refine pw_ast0 I50 E (c := 165) (pc' := 124) rfl rfl rfl (by decide) rfl (by decide) (by omega) (by omega) rfl (by omega) (by omega) (by omega) (by omega) rfl ?_
                              intro h43I h43E
                              generalize h43w : pw_w gh50 165 (k50_4.toNat) (pw_i x42) = h43 at h43I h43E ⊢
                              have h43F := E50.tr (h43E.wk (W' := [125, 164, 165]) (by first | rfl | simp))
                              refine pw_inc E (pc' := 127) (ls' := [some (.ref 141), some (pw_i b), some (pw_i e), some (pw_i k50_3), some (pw_i (k50_4 + 1)), some (pw_i k50_5)]) rfl rfl rfl rfl ?_
                              refine pw_inc E (pc' := 130) (ls' := [some (.ref 141), some (pw_i b), some (pw_i e), some (pw_i k50_3), some (pw_i (k50_4 + 1)), some (pw_i (k50_5 + 1))]) rfl rfl rfl rfl ?_
                              refine pw_goto E (pc' := 50) rfl (by decide) ?_
                              have he44 : pw_gm h43 125 27 = pw_gm gh50 125 27 := by rw [← h43w]; exact pw_gm_ne (by omega)
                              have he45 : pw_gm h43 125 29 = pw_gm gh50 125 29 := by rw [← h43w]; exact pw_gm_ne (by omega)
                              exact ih50 _ (by omega) (k50_3) (k50_4 + 1) (k50_5 + 1) h43 h43I h43F (by omega) (by omega) (by omega) (by omega) (by omega) (by omega) (by omega) (by omega) (by omega) (by omega) (by omega) (by omega) rfl
                          · skip
                            refine pw_if E (pc' := 127) rfl (by decide) (by omega) (by omega) ?_ ?_
                            · intro hc47
                              change x35 = (0 : Int) at hc47
                              refine pw_inc E (pc' := 130) (ls' := [some (.ref 141), some (pw_i b), some (pw_i e), some (pw_i k50_3), some (pw_i k50_4), some (pw_i (k50_5 + 1))]) rfl rfl rfl rfl ?_
                              refine pw_goto E (pc' := 50) rfl (by decide) ?_
                              exact ih50 _ (by omega) (k50_3) (k50_4) (k50_5 + 1) gh50 I50 E50 (by omega) (by omega) (by omega) (by omega) (by omega) (by omega) (by omega) (by omega) (by omega) (by omega) (by omega) (by omega) rfl
                            · intro hc48
                              change ¬ (x35 = (0 : Int)) at hc48
                              exfalso; omega
                        · intro hc49
                          change ¬ (pw_g gh50 132 (k50_5.toNat) ≠ (0 : Int)) at hc49
                          refine pw_ld E (pc' := 79) (st' := [.ref 141]) rfl (fun _ => rfl) ?_
                          refine pw_getR (b := 180) I50 E (c := 125) (k := 53) (pc' := 82) rfl rfl rfl rfl rfl rfl rfl ?_
                          refine pw_ld E (pc' := 83) (st' := [pw_i k50_3, .ref 180]) rfl (fun _ => rfl) ?_
                          refine pw_ld E (pc' := 84) (st' := [.ref 141, pw_i k50_3, .ref 180]) rfl (fun _ => rfl) ?_
                          refine pw_ld E (pc' := 86) (st' := [pw_i k50_5, .ref 141, pw_i k50_3, .ref 180]) rfl (fun _ => rfl) ?_
                          refine pw_ld E (pc' := 87) (st' := [pw_i b, pw_i k50_5, .ref 141, pw_i k50_3, .ref 180]) rfl (fun _ => rfl) ?_
                          refine pw_ld E (pc' := 88) (st' := [pw_i e, pw_i b, pw_i k50_5, .ref 141, pw_i k50_3, .ref 180]) rfl (fun _ => rfl) ?_
                          obtain ⟨f50l, f50h, -⟩ := pw_obj (c := 125) I50 rfl
                          refine pw_call (m' := 215) (As := [.ref 141, pw_i k50_5, pw_i b, pw_i e]) (rest := [pw_i k50_3, .ref 180]) (ls'' := [some (.ref 141), some (pw_i k50_5), some (pw_i b), some (pw_i e)]) (Nat.le_trans (by decide) hd) E rfl (fun _ => pw_iV rfl rfl rfl rfl (pw_cellI f50h rfl)) (rfl : pm_ent 215 = some (4, 4, 12, 0, pmc_215)) rfl rfl (cm_215 (pw_dp hd (by decide)) I50 (k50_5) (by omega) (by omega) (b) (by omega) (by omega) (e) (by omega) (by omega)) ?_
                          rintro u52 v51 ⟨rfl, x53, rfl, hx53a, hx53b⟩
                          refine ⟨_, rfl, ?_⟩
                          show pw X d gh50 295 91 [some (.ref 141), some (pw_i b), some (pw_i e), some (pw_i k50_3), some (pw_i k50_4), some (pw_i k50_5)] [pw_i x53, pw_i k50_3, .ref 180] _
                          refine pw_ast0 I50 E (c := 164) (pc' := 92) rfl rfl rfl (by decide) rfl (by decide) (by omega) (by omega) rfl (by omega) (by omega) (by omega) (by omega) rfl ?_
                          intro h54I h54E
                          generalize h54w : pw_w gh50 164 (k50_3.toNat) (pw_i x53) = h54 at h54I h54E ⊢
                          have h54F := E50.tr (h54E.wk (W' := [125, 164, 165]) (by first | rfl | simp))
                          refine pw_inc E (pc' := 95) (ls' := [some (.ref 141), some (pw_i b), some (pw_i e), some (pw_i (k50_3 + 1)), some (pw_i k50_4), some (pw_i k50_5)]) rfl rfl rfl rfl ?_
                          refine pw_goto E (pc' := 127) rfl (by decide) ?_
                          refine pw_inc E (pc' := 130) (ls' := [some (.ref 141), some (pw_i b), some (pw_i e), some (pw_i (k50_3 + 1)), some (pw_i k50_4), some (pw_i (k50_5 + 1))]) rfl rfl rfl rfl ?_
                          refine pw_goto E (pc' := 50) rfl (by decide) ?_
                          have he55 : pw_gm h54 125 27 = pw_gm gh50 125 27 := by rw [← h54w]; exact pw_gm_ne (by omega)
                          have he56 : pw_gm h54 125 29 = pw_gm gh50 125 29 := by rw [← h54w]; exact pw_gm_ne (by omega)
                          exact ih50 _ (by omega) (k50_3 + 1) (k50_4) (k50_5 + 1) h54 h54I h54F (by omega) (by omega) (by omega) (by omega) (by omega) (by omega) (by omega) (by omega) (by omega) (by omega) (by omega) (by omega) rfl
                    · skip
                      refine pw_if E (pc' := 98) rfl (by decide) (by omega) (by omega) ?_ ?_
                      · intro hc58
                        change x26 = (0 : Int) at hc58
                        refine pw_ld E (pc' := 99) (st' := [.ref 141]) rfl (fun _ => rfl) ?_
                        refine pw_ld E (pc' := 101) (st' := [pw_i k50_5, .ref 141]) rfl (fun _ => rfl) ?_
                        refine pw_ld E (pc' := 102) (st' := [pw_i b, pw_i k50_5, .ref 141]) rfl (fun _ => rfl) ?_
                        refine pw_ld E (pc' := 103) (st' := [pw_i e, pw_i b, pw_i k50_5, .ref 141]) rfl (fun _ => rfl) ?_
                        obtain ⟨f59l, f59h, -⟩ := pw_obj (c := 125) I50 rfl
                        refine pw_call (m' := 214) (As := [.ref 141, pw_i k50_5, pw_i b, pw_i e]) (rest := []) (ls'' := [some (.ref 141), some (pw_i k50_5), some (pw_i b), some (pw_i e)]) (Nat.le_trans (by decide) hd) E rfl (fun _ => pw_iV rfl rfl rfl rfl (pw_cellI f59h rfl)) (rfl : pm_ent 214 = some (4, 4, 12, 1, pmc_214)) rfl rfl (cm_214_r (pw_dp hd (by decide)) I50 (k50_5) (by omega) (by omega) (b) (by omega) (by omega) (e) (by omega) (by omega)) ?_
                        rintro u61 v60 ⟨rfl, x62, rfl, hx62a, hx62b, hx62r⟩
                        refine ⟨_, rfl, ?_⟩
                        show pw X d gh50 295 106 [some (.ref 141), some (pw_i b), some (pw_i e), some (pw_i k50_3), some (pw_i k50_4), some (pw_i k50_5)] [pw_i x62] _
                        change x62 = pw_cd gh50 k50_5 b e at hx62r
                        rcases (by omega : x62 = 1 ∨ x62 = 0) with hb63 | hb63
                        · skip
                          refine pw_if E (pc' := 127) rfl (by decide) (by omega) (by omega) ?_ ?_
                          · intro hc64
                            change x62 = (0 : Int) at hc64
                            exfalso; omega
                          · intro hc65
                            change ¬ (x62 = (0 : Int)) at hc65
                            refine pw_ld E (pc' := 110) (st' := [.ref 141]) rfl (fun _ => rfl) ?_
                            refine pw_getR (b := 181) I50 E (c := 125) (k := 54) (pc' := 113) rfl rfl rfl rfl rfl rfl rfl ?_
                            refine pw_ld E (pc' := 115) (st' := [pw_i k50_4, .ref 181]) rfl (fun _ => rfl) ?_
                            refine pw_ld E (pc' := 116) (st' := [.ref 141, pw_i k50_4, .ref 181]) rfl (fun _ => rfl) ?_
                            refine pw_ld E (pc' := 118) (st' := [pw_i k50_5, .ref 141, pw_i k50_4, .ref 181]) rfl (fun _ => rfl) ?_
                            refine pw_ld E (pc' := 119) (st' := [pw_i b, pw_i k50_5, .ref 141, pw_i k50_4, .ref 181]) rfl (fun _ => rfl) ?_
                            refine pw_ld E (pc' := 120) (st' := [pw_i e, pw_i b, pw_i k50_5, .ref 141, pw_i k50_4, .ref 181]) rfl (fun _ => rfl) ?_
                            obtain ⟨f66l, f66h, -⟩ := pw_obj (c := 125) I50 rfl
                            refine pw_call (m' := 215) (As := [.ref 141, pw_i k50_5, pw_i b, pw_i e]) (rest := [pw_i k50_4, .ref 181]) (ls'' := [some (.ref 141), some (pw_i k50_5), some (pw_i b), some (pw_i e)]) (Nat.le_trans (by decide) hd) E rfl (fun _ => pw_iV rfl rfl rfl rfl (pw_cellI f66h rfl)) (rfl : pm_ent 215 = some (4, 4, 12, 0, pmc_215)) rfl rfl (cm_215 (pw_dp hd (by decide)) I50 (k50_5) (by omega) (by omega) (b) (by omega) (by omega) (e) (by omega) (by omega)) ?_
                            rintro u68 v67 ⟨rfl, x69, rfl, hx69a, hx69b⟩
                            refine ⟨_, rfl, ?_⟩
                            show pw X d gh50 295 123 [some (.ref 141), some (pw_i b), some (pw_i e), some (pw_i k50_3), some (pw_i k50_4), some (pw_i k50_5)] [pw_i x69, pw_i k50_4, .ref 181] _
                            refine pw_ast0 I50 E (c := 165) (pc' := 124) rfl rfl rfl (by decide) rfl (by decide) (by omega) (by omega) rfl (by omega) (by omega) (by omega) (by omega) rfl ?_
                            intro h70I h70E
                            generalize h70w : pw_w gh50 165 (k50_4.toNat) (pw_i x69) = h70 at h70I h70E ⊢
                            have h70F := E50.tr (h70E.wk (W' := [125, 164, 165]) (by first | rfl | simp))
                            refine pw_inc E (pc' := 127) (ls' := [some (.ref 141), some (pw_i b), some (pw_i e), some (pw_i k50_3), some (pw_i (k50_4 + 1)), some (pw_i k50_5)]) rfl rfl rfl rfl ?_
                            refine pw_inc E (pc' := 130) (ls' := [some (.ref 141), some (pw_i b), some (pw_i e), some (pw_i k50_3), some (pw_i (k50_4 + 1)), some (pw_i (k50_5 + 1))]) rfl rfl rfl rfl ?_
                            refine pw_goto E (pc' := 50) rfl (by decide) ?_
                            have he71 : pw_gm h70 125 27 = pw_gm gh50 125 27 := by rw [← h70w]; exact pw_gm_ne (by omega)
                            have he72 : pw_gm h70 125 29 = pw_gm gh50 125 29 := by rw [← h70w]; exact pw_gm_ne (by omega)
                            exact ih50 _ (by omega) (k50_3) (k50_4 + 1) (k50_5 + 1) h70 h70I h70F (by omega) (by omega) (by omega) (by omega) (by omega) (by omega) (by omega) (by omega) (by omega) (by omega) (by omega) (by omega) rfl
                        · skip
                          refine pw_if E (pc' := 127) rfl (by decide) (by omega) (by omega) ?_ ?_
                          · intro hc74
                            change x62 = (0 : Int) at hc74
                            refine pw_inc E (pc' := 130) (ls' := [some (.ref 141), some (pw_i b), some (pw_i e), some (pw_i k50_3), some (pw_i k50_4), some (pw_i (k50_5 + 1))]) rfl rfl rfl rfl ?_
                            refine pw_goto E (pc' := 50) rfl (by decide) ?_
                            exact ih50 _ (by omega) (k50_3) (k50_4) (k50_5 + 1) gh50 I50 E50 (by omega) (by omega) (by omega) (by omega) (by omega) (by omega) (by omega) (by omega) (by omega) (by omega) (by omega) (by omega) rfl
                          · intro hc75
                            change ¬ (x62 = (0 : Int)) at hc75
                            exfalso; omega
                      · intro hc76
                        change ¬ (x26 = (0 : Int)) at hc76
                        exfalso; omega
              exact L50 _ (0) (0) (0) h8 h8I h8F (by omega) (by omega) (by omega) (by omega) (by omega) (by omega) rfl rfl (by omega) (by omega) (by omega) (by omega) rfl
            · intro hc77
              change ¬ (c19 ≤ (0 : Int)) at hc77
              refine pw_ld E (pc' := 41) (st' := [pw_i 0]) rfl (fun _ => rfl) ?_
              refine pw_zret E rfl (by omega) ?_
              exact ⟨h8I, h8F, ⟨_, rfl, by omega, by omega, by omega⟩⟩
      · skip
        refine pw_if E (pc' := 40) rfl (by decide) (by omega) (by omega) ?_ ?_
        · intro hc79
          change x10 = (0 : Int) at hc79
          refine pw_ld E (pc' := 41) (st' := [pw_i 0]) rfl (fun _ => rfl) ?_
          refine pw_zret E rfl (by omega) ?_
          exact ⟨h8I, h8F, ⟨_, rfl, by omega, by omega, by omega⟩⟩
        · intro hc80
          change ¬ (x10 = (0 : Int)) at hc80
          exfalso; omega
  · skip
    refine pw_if E (pc' := 40) rfl (by decide) (by omega) (by omega) ?_ ?_
    · intro hc82
      change x3 = (0 : Int) at hc82
      refine pw_ld E (pc' := 41) (st' := [pw_i 0]) rfl (fun _ => rfl) ?_
      refine pw_zret E rfl (by omega) ?_
      exact ⟨I, E0, ⟨_, rfl, by omega, by omega, by omega⟩⟩
    · intro hc83
      change ¬ (x3 = (0 : Int)) at hc83
      exfalso; omega
set_option maxHeartbeats 4000000 in
theorem cm_296_r {X : List (Nat × List Value)} {d : Nat} {h : pm_H} (hd : 2 ≤ d) (I : pw_I h) (k : Int) (hk1 : 1 ≤ k) (hk2 : k ≤ 9) (hp0 : pw_gm h 125 27 ≤ 9) (hp1 : pw_gm h 125 29 ≤ 9) (hp2 : k ≤ pw_gm h 125 27) (hp3 : k ≤ pw_gm h 125 29) : pw X d h 296 0 [some (.ref 141), some (pw_i k), none, none, none, none, none] [] (fun h' v => pw_I h' ∧ pw_E [125] h h' ∧ (1 ≤ pw_gm h' 125 25 ∧ pw_gm h' 125 27 = pw_gm h 125 27 ∧ pw_gm h' 125 29 = pw_gm h 125 29) ∧ (v = .inl none)) := by
  have E : pm_ent 296 = some (2, 7, 12, 4, pmc_296) := rfl
  have E0 : pw_E [125] h h := pw_E.rf _ _
  have hk2 := pw_p2_r (a := k) (by omega) (by omega)
  have hk9 := pw_p2_le (a := pw_gm h 125 27) (b := 9) (by omega)
  have hk8 := pw_p2_le (a := pw_gm h 125 29) (b := 9) (by omega)
  have hk7 : pw_p2 9 = 512 := rfl
  have hk6 := pw_p2_le (a := k) (b := pw_gm h 125 27) (by omega)
  have hk5 := pw_p2_le (a := k) (b := pw_gm h 125 29) (by omega)
  refine pw_ld E (pc' := 1) (st' := [.ref 141]) rfl (fun _ => rfl) ?_
  refine pw_getL I E (c := 125) (k := 26) (pc' := 4) rfl rfl rfl rfl rfl rfl ?_
  refine pw_ld E (pc' := 5) (st' := [.ref 141, .long (pw_gl h 125 26)]) rfl (fun _ => rfl) ?_
  refine pw_getM I E (c := 125) (k := 29) (pc' := 8) rfl rfl rfl rfl rfl rfl (fun hf1a hf1b => ?_)
  refine pw_ld E (pc' := 9) (st' := [.long ((pw_gl h 125 26) * (Int64.ofInt (pw_gm h 125 29)))]) rfl (fun _ => rfl) ?_
  refine pw_ld E (pc' := 10) (st' := [.ref 141, .long ((pw_gl h 125 26) * (Int64.ofInt (pw_gm h 125 29)))]) rfl (fun _ => rfl) ?_
  refine pw_getL I E (c := 125) (k := 28) (pc' := 13) rfl rfl rfl rfl rfl rfl ?_
  refine pw_ld E (pc' := 14) (st' := [.ref 141, .long (pw_gl h 125 28), .long ((pw_gl h 125 26) * (Int64.ofInt (pw_gm h 125 29)))]) rfl (fun _ => rfl) ?_
  refine pw_getM I E (c := 125) (k := 27) (pc' := 17) rfl rfl rfl rfl rfl rfl (fun hf2a hf2b => ?_)
  refine pw_ld E (pc' := 18) (st' := [.long ((pw_gl h 125 28) * (Int64.ofInt (pw_gm h 125 27))), .long ((pw_gl h 125 26) * (Int64.ofInt (pw_gm h 125 29)))]) rfl (fun _ => rfl) ?_
  refine pw_ld E (pc' := 19) (st' := [.long (((pw_gl h 125 26) * (Int64.ofInt (pw_gm h 125 29))) - ((pw_gl h 125 28) * (Int64.ofInt (pw_gm h 125 27))))]) rfl (fun _ => rfl) ?_
  refine pw_call (m' := 297) (As := [.long (((pw_gl h 125 26) * (Int64.ofInt (pw_gm h 125 29))) - ((pw_gl h 125 28) * (Int64.ofInt (pw_gm h 125 27))))]) (rest := []) (ls'' := [some (.long (((pw_gl h 125 26) * (Int64.ofInt (pw_gm h 125 29))) - ((pw_gl h 125 28) * (Int64.ofInt (pw_gm h 125 27))))), none]) (Nat.le_trans (by decide) hd) E rfl (fun _ => pw_iS rfl rfl rfl) (rfl : pm_ent 297 = some (1, 2, 12, 0, pmc_297)) rfl rfl (cm_297 (pw_dp hd (by decide)) I (((pw_gl h 125 26) * (Int64.ofInt (pw_gm h 125 29))) - ((pw_gl h 125 28) * (Int64.ofInt (pw_gm h 125 27))))) ?_
  rintro u4 v3 ⟨rfl, x5, rfl, hx5a, hx5b⟩
  refine ⟨_, rfl, ?_⟩
  show pw X d h 296 22 [some (.ref 141), some (pw_i k), none, none, none, none, none] [pw_i x5] _
  refine pw_istn E (pc' := 23) (ls' := [some (.ref 141), some (pw_i k), some (pw_i x5), none, none, none, none]) rfl rfl rfl rfl ?_
  refine pw_ld E (pc' := 24) (st' := [.ref 141]) rfl (fun _ => rfl) ?_
  refine pw_ld E (pc' := 25) (st' := [.long (Int64.ofInt 0), .ref 141]) rfl (fun _ => rfl) ?_
  refine pw_putL I E (c := 125) (k := 24) (pc' := 28) rfl rfl rfl rfl rfl rfl ?_
  intro h6I h6E
  generalize h6w : pw_w h 125 24 (.long (Int64.ofInt 0)) = h6 at h6I h6E ⊢
  have h6F := E0.tr (h6E.wk (W' := [125]) (by first | rfl | simp))
  refine pw_ld E (pc' := 29) (st' := [.ref 141]) rfl (fun _ => rfl) ?_
  refine pw_ld E (pc' := 30) (st' := [.long (Int64.ofInt 0), .ref 141]) rfl (fun _ => rfl) ?_
  refine pw_putM h6I E (c := 125) (k := 25) (pc' := 33) rfl rfl rfl rfl (by omega) (by omega) (by omega) (by omega) rfl rfl ?_
  intro h7I h7E
  generalize h7w : pw_w h6 125 25 (.long (Int64.ofInt 0)) = h7 at h7I h7E ⊢
  have h7F := h6F.tr (h7E.wk (W' := [125]) (by first | rfl | simp))
  refine pw_ld E (pc' := 34) (st' := [pw_i 0]) rfl (fun _ => rfl) ?_
  refine pw_istn E (pc' := 35) (ls' := [some (.ref 141), some (pw_i k), some (pw_i x5), some (pw_i 0), none, none, none]) rfl rfl rfl rfl ?_
  have L35 : ∀ (n35 : Nat) (k35_3 : Int) (k35_4 : Option Value) (k35_6 : Option Value) (gh35 : pm_H), pw_I gh35 → pw_E [125] h gh35 → 0 ≤ k35_3 → k35_3 ≤ 512 → pw_gm gh35 125 27 = pw_gm h 125 27 → pw_gm gh35 125 29 = pw_gm h 125 29 → pw_gm gh35 125 25 ≤ 512 * k35_3 → 0 ≤ pw_gm gh35 125 25 → (pw_p2 k - 1 < k35_3 → 1 ≤ pw_gm gh35 125 25) → (512 - k35_3).toNat = n35 → pw X d gh35 296 35 [some (.ref 141), some (pw_i k), some (pw_i x5), some (pw_i k35_3), k35_4, none, k35_6] [] (fun h' v => pw_I h' ∧ pw_E [125] h h' ∧ (1 ≤ pw_gm h' 125 25 ∧ pw_gm h' 125 27 = pw_gm h 125 27 ∧ pw_gm h' 125 29 = pw_gm h 125 29) ∧ (v = .inl none)) := by
    intro n35
    induction n35 using Nat.strongRecOn with
    | ind n35 ih35 =>
      intro k35_3 k35_4 k35_6 gh35 I35 E35 k35_3a k35_3b hx35_0 hx35_1 hx35_2 hx35_3 hx35_4 hm35
      refine pw_ld E (pc' := 36) (st' := [pw_i k35_3]) rfl (fun _ => rfl) ?_
      refine pw_ld E (pc' := 37) (st' := [pw_i 1, pw_i k35_3]) rfl (fun _ => rfl) ?_
      refine pw_ld E (pc' := 38) (st' := [.ref 141, pw_i 1, pw_i k35_3]) rfl (fun _ => rfl) ?_
      refine pw_getM I35 E (c := 125) (k := 27) (pc' := 41) rfl rfl rfl rfl rfl rfl (fun hf8a hf8b => ?_)
      refine pw_l2iC E (pc' := 42) rfl rfl ?_
      refine pw_shlE E (pc' := 43) rfl rfl (by omega) (by omega) ?_
      have hp9 := pw_p2_r (a := pw_gm gh35 125 27) (by omega) (by omega)
      have hq27 : pw_p2 (pw_gm gh35 125 27) = pw_p2 (pw_gm h 125 27) := by rw [hx35_0]
      refine pw_if2 E (pc' := 143) rfl (by decide) (by omega) (by omega) (by omega) (by omega) ?_ ?_
      · intro hc10
        change pw_p2 (pw_gm gh35 125 27) ≤ k35_3 at hc10
        refine pw_vret E rfl ?_
        exact ⟨I35, E35, ⟨by omega, rfl⟩⟩
      · intro hc11
        change ¬ (pw_p2 (pw_gm gh35 125 27) ≤ k35_3) at hc11
        have hbpA : k35_3 = pw_p2 k - 1 → pw_bt k35_3 9 = k := fun q => by rw [q]; exact pw_bt_p (n := 9) (by omega) (by omega) (by omega)
        refine pw_ld E (pc' := 47) (st' := [pw_i k35_3]) rfl (fun _ => rfl) ?_
        refine pw_call (m' := 298) (As := [pw_i k35_3]) (rest := []) (ls'' := [some (pw_i k35_3), none, none]) (Nat.le_trans (by decide) hd) E rfl (fun _ => pw_iS rfl rfl rfl) (rfl : pm_ent 298 = some (1, 3, 12, 0, pmc_298)) rfl rfl (cm_298_r (pw_dp hd (by decide)) I35 (k35_3) (by omega) (by omega)) ?_
        rintro u13 v12 ⟨rfl, x14, rfl, hx14a, hx14b, hx14r⟩
        refine ⟨_, rfl, ?_⟩
        show pw X d gh35 296 50 [some (.ref 141), some (pw_i k), some (pw_i x5), some (pw_i k35_3), k35_4, none, k35_6] [pw_i x14] _
        change x14 = pw_bt k35_3 9 at hx14r
        refine pw_ld E (pc' := 51) (st' := [pw_i k, pw_i x14]) rfl (fun _ => rfl) ?_
        refine pw_if2 E (pc' := 137) rfl (by decide) (by omega) (by omega) (by omega) (by omega) ?_ ?_
        · intro hc15
          change x14 ≠ k at hc15
          refine pw_inc E (pc' := 140) (ls' := [some (.ref 141), some (pw_i k), some (pw_i x5), some (pw_i (k35_3 + 1)), k35_4, none, k35_6]) rfl rfl rfl rfl ?_
          refine pw_goto E (pc' := 35) rfl (by decide) ?_
          exact ih35 _ (by omega) (k35_3 + 1) k35_4 k35_6 gh35 I35 E35 (by omega) (by omega) (by omega) (by omega) (by omega) (by omega) (by omega) rfl
        · intro hc16
          change ¬ (x14 ≠ k) at hc16
          refine pw_ld E (pc' := 55) (st' := [.ref 141]) rfl (fun _ => rfl) ?_
          refine pw_getR (b := 180) I35 E (c := 125) (k := 53) (pc' := 58) rfl rfl rfl rfl rfl rfl rfl ?_
          refine pw_ld E (pc' := 59) (st' := [pw_i k35_3, .ref 180]) rfl (fun _ => rfl) ?_
          refine pw_call (m' := 299) (As := [.ref 180, pw_i k35_3]) (rest := []) (ls'' := [some (.ref 180), some (pw_i k35_3), none, none, none]) (Nat.le_trans (by decide) hd) E rfl (fun _ => pw_iS rfl rfl rfl) (rfl : pm_ent 299 = some (2, 5, 12, 2, pmc_299)) rfl rfl (cm_299_164 (pw_dp hd (by decide)) I35 (k35_3) (by omega) (by omega)) ?_
          rintro u18 v17 ⟨rfl, w19, rfl⟩
          refine ⟨_, rfl, ?_⟩
          show pw X d gh35 296 62 [some (.ref 141), some (pw_i k), some (pw_i x5), some (pw_i k35_3), k35_4, none, k35_6] [.long w19] _
          refine pw_lst E (pc' := 64) (ls' := [some (.ref 141), some (pw_i k), some (pw_i x5), some (pw_i k35_3), some (.long w19), none, k35_6]) rfl rfl rfl rfl ?_
          refine pw_ld E (pc' := 65) (st' := [pw_i 0]) rfl (fun _ => rfl) ?_
          refine pw_ist E (pc' := 67) (ls' := [some (.ref 141), some (pw_i k), some (pw_i x5), some (pw_i k35_3), some (.long w19), none, some (pw_i 0)]) rfl rfl rfl rfl ?_
          have L67 : ∀ (n67 : Nat) (k67_6 : Int) (gh67 : pm_H), pw_I gh67 → pw_E [125] h gh67 → 0 ≤ k67_6 → k67_6 ≤ 512 → pw_gm gh67 125 27 = pw_gm h 125 27 → pw_gm gh67 125 29 = pw_gm h 125 29 → pw_gm gh67 125 25 ≤ 512 * k35_3 + k67_6 → 0 ≤ pw_gm gh67 125 25 → (pw_p2 k - 1 < k35_3 → 1 ≤ pw_gm gh67 125 25) → (pw_p2 k - 1 < k67_6 → 1 ≤ pw_gm gh67 125 25) → (512 - k67_6).toNat = n67 → pw X d gh67 296 67 [some (.ref 141), some (pw_i k), some (pw_i x5), some (pw_i k35_3), some (.long w19), none, some (pw_i k67_6)] [] (fun h' v => pw_I h' ∧ pw_E [125] h h' ∧ (1 ≤ pw_gm h' 125 25 ∧ pw_gm h' 125 27 = pw_gm h 125 27 ∧ pw_gm h' 125 29 = pw_gm h 125 29) ∧ (v = .inl none)) := by
            intro n67
            induction n67 using Nat.strongRecOn with
            | ind n67 ih67 =>
              intro k67_6 gh67 I67 E67 k67_6a k67_6b hx67_0 hx67_1 hx67_2 hx67_3 hx67_4 hx67_5 hm67
              refine pw_ld E (pc' := 69) (st' := [pw_i k67_6]) rfl (fun _ => rfl) ?_
              refine pw_ld E (pc' := 70) (st' := [pw_i 1, pw_i k67_6]) rfl (fun _ => rfl) ?_
              refine pw_ld E (pc' := 71) (st' := [.ref 141, pw_i 1, pw_i k67_6]) rfl (fun _ => rfl) ?_
              refine pw_getM I67 E (c := 125) (k := 29) (pc' := 74) rfl rfl rfl rfl rfl rfl (fun hf20a hf20b => ?_)
              refine pw_l2iC E (pc' := 75) rfl rfl ?_
              refine pw_shlE E (pc' := 76) rfl rfl (by omega) (by omega) ?_
              have hp21 := pw_p2_r (a := pw_gm gh67 125 29) (by omega) (by omega)
              have hq29 : pw_p2 (pw_gm gh67 125 29) = pw_p2 (pw_gm h 125 29) := by rw [hx67_1]
              refine pw_if2 E (pc' := 137) rfl (by decide) (by omega) (by omega) (by omega) (by omega) ?_ ?_
              · intro hc22
                change pw_p2 (pw_gm gh67 125 29) ≤ k67_6 at hc22
                refine pw_inc E (pc' := 140) (ls' := [some (.ref 141), some (pw_i k), some (pw_i x5), some (pw_i (k35_3 + 1)), some (.long w19), none, some (pw_i k67_6)]) rfl rfl rfl rfl ?_
                refine pw_goto E (pc' := 35) rfl (by decide) ?_
                exact ih35 _ (by omega) (k35_3 + 1) (some (.long w19)) (some (pw_i k67_6)) gh67 I67 E67 (by omega) (by omega) (by omega) (by omega) (by omega) (by omega) (by omega) rfl
              · intro hc23
                change ¬ (pw_p2 (pw_gm gh67 125 29) ≤ k67_6) at hc23
                have hbpB : k67_6 = pw_p2 k - 1 → pw_bt k67_6 9 = k := fun q => by rw [q]; exact pw_bt_p (n := 9) (by omega) (by omega) (by omega)
                refine pw_ld E (pc' := 81) (st' := [pw_i k67_6]) rfl (fun _ => rfl) ?_
                refine pw_call (m' := 298) (As := [pw_i k67_6]) (rest := []) (ls'' := [some (pw_i k67_6), none, none]) (Nat.le_trans (by decide) hd) E rfl (fun _ => pw_iS rfl rfl rfl) (rfl : pm_ent 298 = some (1, 3, 12, 0, pmc_298)) rfl rfl (cm_298_r (pw_dp hd (by decide)) I67 (k67_6) (by omega) (by omega)) ?_
                rintro u25 v24 ⟨rfl, x26, rfl, hx26a, hx26b, hx26r⟩
                refine ⟨_, rfl, ?_⟩
                show pw X d gh67 296 84 [some (.ref 141), some (pw_i k), some (pw_i x5), some (pw_i k35_3), some (.long w19), none, some (pw_i k67_6)] [pw_i x26] _
                change x26 = pw_bt k67_6 9 at hx26r
                refine pw_ld E (pc' := 85) (st' := [pw_i k, pw_i x26]) rfl (fun _ => rfl) ?_
                refine pw_if2 E (pc' := 131) rfl (by decide) (by omega) (by omega) (by omega) (by omega) ?_ ?_
                · intro hc27
                  change x26 ≠ k at hc27
                  refine pw_inc E (pc' := 134) (ls' := [some (.ref 141), some (pw_i k), some (pw_i x5), some (pw_i k35_3), some (.long w19), none, some (pw_i (k67_6 + 1))]) rfl rfl rfl rfl ?_
                  refine pw_goto E (pc' := 67) rfl (by decide) ?_
                  exact ih67 _ (by omega) (k67_6 + 1) gh67 I67 E67 (by omega) (by omega) (by omega) (by omega) (by omega) (by omega) (by omega) (by omega) rfl
                · intro hc28
                  change ¬ (x26 ≠ k) at hc28
                  refine pw_ld E (pc' := 89) (st' := [.ref 141]) rfl (fun _ => rfl) ?_
                  refine pw_ld E (pc' := 90) (st' := [.ref 141, .ref 141]) rfl (fun _ => rfl) ?_
                  refine pw_getM I67 E (c := 125) (k := 25) (pc' := 93) rfl rfl rfl rfl rfl rfl (fun hf29a hf29b => ?_)
                  refine pw_ld E (pc' := 94) (st' := [.long (Int64.ofInt 1), .long (Int64.ofInt (pw_gm gh67 125 25)), .ref 141]) rfl (fun _ => rfl) ?_
                  refine pw_ladd E (pc' := 95) rfl rfl ?_
                  refine pw_putM I67 E (c := 125) (k := 25) (pc' := 98) rfl rfl rfl rfl (by omega) (by omega) (by omega) (by omega) rfl rfl ?_
                  intro h30I h30E
                  generalize h30w : pw_w gh67 125 25 (.long (Int64.ofInt ((pw_gm gh67 125 25) + 1))) = h30 at h30I h30E ⊢
                  have h30F := E67.tr (h30E.wk (W' := [125]) (by first | rfl | simp))
                  refine pw_ld E (pc' := 99) (st' := [.ref 141]) rfl (fun _ => rfl) ?_
                  refine pw_ld E (pc' := 100) (st' := [.ref 141, .ref 141]) rfl (fun _ => rfl) ?_
                  refine pw_getL h30I E (c := 125) (k := 24) (pc' := 103) rfl rfl rfl rfl rfl rfl ?_
                  refine pw_ld E (pc' := 105) (st' := [.long w19, .long (pw_gl h30 125 24), .ref 141]) rfl (fun _ => rfl) ?_
                  refine pw_ld E (pc' := 106) (st' := [.ref 141, .long w19, .long (pw_gl h30 125 24), .ref 141]) rfl (fun _ => rfl) ?_
                  refine pw_getR (b := 181) h30I E (c := 125) (k := 54) (pc' := 109) rfl rfl rfl rfl rfl rfl rfl ?_
                  refine pw_ld E (pc' := 111) (st' := [pw_i k67_6, .ref 181, .long w19, .long (pw_gl h30 125 24), .ref 141]) rfl (fun _ => rfl) ?_
                  refine pw_call (m' := 299) (As := [.ref 181, pw_i k67_6]) (rest := [.long w19, .long (pw_gl h30 125 24), .ref 141]) (ls'' := [some (.ref 181), some (pw_i k67_6), none, none, none]) (Nat.le_trans (by decide) hd) E rfl (fun _ => pw_iS rfl rfl rfl) (rfl : pm_ent 299 = some (2, 5, 12, 2, pmc_299)) rfl rfl (cm_299_165 (pw_dp hd (by decide)) h30I (k67_6) (by omega) (by omega)) ?_
                  rintro u32 v31 ⟨rfl, w33, rfl⟩
                  refine ⟨_, rfl, ?_⟩
                  show pw X d h30 296 114 [some (.ref 141), some (pw_i k), some (pw_i x5), some (pw_i k35_3), some (.long w19), none, some (pw_i k67_6)] [.long w33, .long w19, .long (pw_gl h30 125 24), .ref 141] _
                  refine pw_ld E (pc' := 115) (st' := [.long (w19 - w33), .long (pw_gl h30 125 24), .ref 141]) rfl (fun _ => rfl) ?_
                  refine pw_call (m' := 297) (As := [.long (w19 - w33)]) (rest := [.long (pw_gl h30 125 24), .ref 141]) (ls'' := [some (.long (w19 - w33)), none]) (Nat.le_trans (by decide) hd) E rfl (fun _ => pw_iS rfl rfl rfl) (rfl : pm_ent 297 = some (1, 2, 12, 0, pmc_297)) rfl rfl (cm_297 (pw_dp hd (by decide)) h30I (w19 - w33)) ?_
                  rintro u35 v34 ⟨rfl, x36, rfl, hx36a, hx36b⟩
                  refine ⟨_, rfl, ?_⟩
                  show pw X d h30 296 118 [some (.ref 141), some (pw_i k), some (pw_i x5), some (pw_i k35_3), some (.long w19), none, some (pw_i k67_6)] [pw_i x36, .long (pw_gl h30 125 24), .ref 141] _
                  refine pw_ld E (pc' := 119) (st' := [pw_i x5, pw_i x36, .long (pw_gl h30 125 24), .ref 141]) rfl (fun _ => rfl) ?_
                  refine pw_if2 E (pc' := 126) rfl (by decide) (by omega) (by omega) (by omega) (by omega) ?_ ?_
                  · intro hc37
                    change x36 ≠ x5 at hc37
                    refine pw_ld E (pc' := 127) (st' := [.long (Int64.ofInt 0), .long (pw_gl h30 125 24), .ref 141]) rfl (fun _ => rfl) ?_
                    refine pw_ld E (pc' := 128) (st' := [.long ((pw_gl h30 125 24) + (Int64.ofInt 0)), .ref 141]) rfl (fun _ => rfl) ?_
                    refine pw_putL h30I E (c := 125) (k := 24) (pc' := 131) rfl rfl rfl rfl rfl rfl ?_
                    intro h38I h38E
                    generalize h38w : pw_w h30 125 24 (.long ((pw_gl h30 125 24) + (Int64.ofInt 0))) = h38 at h38I h38E ⊢
                    have h38F := h30F.tr (h38E.wk (W' := [125]) (by first | rfl | simp))
                    refine pw_inc E (pc' := 134) (ls' := [some (.ref 141), some (pw_i k), some (pw_i x5), some (pw_i k35_3), some (.long w19), none, some (pw_i (k67_6 + 1))]) rfl rfl rfl rfl ?_
                    refine pw_goto E (pc' := 67) rfl (by decide) ?_
                    have he39 : pw_gm h38 125 27 = pw_gm h30 125 27 := by rw [← h38w]; exact pw_gm_ne (by omega)
                    have he40 : pw_gm h30 125 27 = pw_gm gh67 125 27 := by rw [← h30w]; exact pw_gm_ne (by omega)
                    have he41 : pw_gm h38 125 29 = pw_gm h30 125 29 := by rw [← h38w]; exact pw_gm_ne (by omega)
                    have he42 : pw_gm h30 125 29 = pw_gm gh67 125 29 := by rw [← h30w]; exact pw_gm_ne (by omega)
                    have he43 : pw_gm h38 125 25 = pw_gm h30 125 25 := by rw [← h38w]; exact pw_gm_ne (by omega)
                    have he44 : pw_gm h30 125 25 = (pw_gm gh67 125 25) + 1 := by rw [← h30w]; exact pw_gm_eq (c := 125) (k := 25) I67 rfl rfl (by omega) (by omega)
                    exact ih67 _ (by omega) (k67_6 + 1) h38 h38I h38F (by omega) (by omega) (by omega) (by omega) (by omega) (by omega) (by omega) (by omega) rfl
                  · intro hc45
                    change ¬ (x36 ≠ x5) at hc45
                    refine pw_ld E (pc' := 123) (st' := [.long (Int64.ofInt 1), .long (pw_gl h30 125 24), .ref 141]) rfl (fun _ => rfl) ?_
                    refine pw_goto E (pc' := 127) rfl (by decide) ?_
                    refine pw_ld E (pc' := 128) (st' := [.long ((pw_gl h30 125 24) + (Int64.ofInt 1)), .ref 141]) rfl (fun _ => rfl) ?_
                    refine pw_putL h30I E (c := 125) (k := 24) (pc' := 131) rfl rfl rfl rfl rfl rfl ?_
                    intro h46I h46E
                    generalize h46w : pw_w h30 125 24 (.long ((pw_gl h30 125 24) + (Int64.ofInt 1))) = h46 at h46I h46E ⊢
                    have h46F := h30F.tr (h46E.wk (W' := [125]) (by first | rfl | simp))
                    refine pw_inc E (pc' := 134) (ls' := [some (.ref 141), some (pw_i k), some (pw_i x5), some (pw_i k35_3), some (.long w19), none, some (pw_i (k67_6 + 1))]) rfl rfl rfl rfl ?_
                    refine pw_goto E (pc' := 67) rfl (by decide) ?_
                    have he47 : pw_gm h46 125 27 = pw_gm h30 125 27 := by rw [← h46w]; exact pw_gm_ne (by omega)
                    have he48 : pw_gm h30 125 27 = pw_gm gh67 125 27 := by rw [← h30w]; exact pw_gm_ne (by omega)
                    have he49 : pw_gm h46 125 29 = pw_gm h30 125 29 := by rw [← h46w]; exact pw_gm_ne (by omega)
                    have he50 : pw_gm h30 125 29 = pw_gm gh67 125 29 := by rw [← h30w]; exact pw_gm_ne (by omega)
                    have he51 : pw_gm h46 125 25 = pw_gm h30 125 25 := by rw [← h46w]; exact pw_gm_ne (by omega)
                    have he52 : pw_gm h30 125 25 = (pw_gm gh67 125 25) + 1 := by rw [← h30w]; exact pw_gm_eq (c := 125) (k := 25) I67 rfl rfl (by omega) (by omega)
                    exact ih67 _ (by omega) (k67_6 + 1) h46 h46I h46F (by omega) (by omega) (by omega) (by omega) (by omega) (by omega) (by omega) (by omega) rfl
          exact L67 _ (0) gh35 I35 E35 (by omega) (by omega) (by omega) (by omega) (by omega) (by omega) (by omega) (by omega) rfl
  have he53 : pw_gm h7 125 27 = pw_gm h6 125 27 := by rw [← h7w]; exact pw_gm_ne (by omega)
  have he54 : pw_gm h6 125 27 = pw_gm h 125 27 := by rw [← h6w]; exact pw_gm_ne (by omega)
  have he55 : pw_gm h7 125 29 = pw_gm h6 125 29 := by rw [← h7w]; exact pw_gm_ne (by omega)
  have he56 : pw_gm h6 125 29 = pw_gm h 125 29 := by rw [← h6w]; exact pw_gm_ne (by omega)
  have he57 : pw_gm h7 125 25 = 0 := by rw [← h7w]; exact pw_gm_eq (c := 125) (k := 25) h6I rfl rfl (by omega) (by omega)
  exact L35 _ (0) (none) (none) h7 h7I h7F (by omega) (by omega) (by omega) (by omega) (by omega) (by omega) (by omega) rfl
set_option maxHeartbeats 4000000 in
theorem cm_294 {X : List (Nat × List Value)} {d : Nat} {h : pm_H} (hd : 6 ≤ d) (I : pw_I h) (b : Int) (hb1 : (-2147483648) ≤ b) (hb2 : b ≤ 2147483647) (e : Int) (he1 : (-2147483648) ≤ e) (he2 : e ≤ 2147483647) (kk : Int) (hkk1 : (-2147483648) ≤ kk) (hkk2 : kk ≤ 2147483647) (wt : Int) (hwt1 : (-2147483648) ≤ wt) (hwt2 : wt ≤ 2147483647) : pw X d h 294 0 [some (.ref 141), some (pw_i b), some (pw_i e), some (pw_i kk), some (pw_i wt)] [] (fun h' v => pw_I h' ∧ pw_E [125, 164, 165] h h' ∧ ∃ w : Int64, v = .inl (some (.long w))) := by
  have E : pm_ent 294 = some (5, 5, 12, 2, pmc_294) := rfl
  have E0 : pw_E [125, 164, 165] h h := pw_E.rf _ _
  refine pw_ld E (pc' := 1) (st' := [.ref 141]) rfl (fun _ => rfl) ?_
  refine pw_ld E (pc' := 2) (st' := [pw_i 0, .ref 141]) rfl (fun _ => rfl) ?_
  refine pw_putI I E (c := 125) (k := 0) (pc' := 5) rfl rfl rfl rfl (by omega) (by omega) (by omega) (by omega) rfl rfl ?_
  intro h1I h1E
  generalize h1w : pw_w h 125 0 (pw_i 0) = h1 at h1I h1E ⊢
  have h1F := E0.tr (h1E.wk (W' := [125, 164, 165]) (by first | rfl | simp))
  refine pw_ld E (pc' := 6) (st' := [pw_i kk]) rfl (fun _ => rfl) ?_
  refine pw_ld E (pc' := 7) (st' := [pw_i 1, pw_i kk]) rfl (fun _ => rfl) ?_
  refine pw_bip E (pc' := 9) rfl rfl (by decide) ?_
  refine pw_call (m' := 202) (As := [pw_i kk, pw_i 1, pw_i 9]) (rest := []) (ls'' := [some (pw_i kk), some (pw_i 1), some (pw_i 9)]) (Nat.le_trans (by decide) hd) E rfl (fun _ => pw_iS rfl rfl rfl) (rfl : pm_ent 202 = some (3, 3, 12, 1, pmc_202)) rfl rfl (cm_202 (pw_dp hd (by decide)) h1I (kk) (by omega) (by omega) (1) (by omega) (by omega) (9) (by omega) (by omega)) ?_
  rintro u3 v2 ⟨rfl, x4, rfl, hx4a, hx4b, hx4r⟩
  refine ⟨_, rfl, ?_⟩
  show pw X d h1 294 12 [some (.ref 141), some (pw_i b), some (pw_i e), some (pw_i kk), some (pw_i wt)] [pw_i x4] _
  change (x4 = 1 ∧ 1 ≤ kk ∧ kk ≤ 9) ∨ (x4 = 0 ∧ ¬ (1 ≤ kk ∧ kk ≤ 9)) at hx4r
  rcases (by omega : x4 = 1 ∨ x4 = 0) with hb5 | hb5
  · skip
    refine pw_if E (pc' := 52) rfl (by decide) (by omega) (by omega) ?_ ?_
    · intro hc6
      change x4 = (0 : Int) at hc6
      exfalso; omega
    · intro hc7
      change ¬ (x4 = (0 : Int)) at hc7
      refine pw_ld E (pc' := 17) (st' := [pw_i wt]) rfl (fun _ => rfl) ?_
      refine pw_call (m' := 217) (As := [pw_i wt]) (rest := []) (ls'' := [some (pw_i wt)]) (Nat.le_trans (by decide) hd) E rfl (fun _ => pw_iS rfl rfl rfl) (rfl : pm_ent 217 = some (1, 1, 12, 1, pmc_217)) rfl rfl (cm_217 (pw_dp hd (by decide)) h1I (wt) (by omega) (by omega)) ?_
      rintro u9 v8 ⟨rfl, x10, rfl, hx10a, hx10b, hx10r⟩
      refine ⟨_, rfl, ?_⟩
      show pw X d h1 294 20 [some (.ref 141), some (pw_i b), some (pw_i e), some (pw_i kk), some (pw_i wt)] [pw_i x10] _
      change (x10 = 1 ∧ 0 ≤ wt ∧ wt ≤ 1) ∨ (x10 = 0 ∧ ¬ (0 ≤ wt ∧ wt ≤ 1)) at hx10r
      rcases (by omega : x10 = 1 ∨ x10 = 0) with hb11 | hb11
      · skip
        refine pw_if E (pc' := 52) rfl (by decide) (by omega) (by omega) ?_ ?_
        · intro hc12
          change x10 = (0 : Int) at hc12
          exfalso; omega
        · intro hc13
          change ¬ (x10 = (0 : Int)) at hc13
          refine pw_ld E (pc' := 24) (st' := [.ref 141]) rfl (fun _ => rfl) ?_
          refine pw_ld E (pc' := 25) (st' := [pw_i b, .ref 141]) rfl (fun _ => rfl) ?_
          refine pw_ld E (pc' := 26) (st' := [pw_i e, pw_i b, .ref 141]) rfl (fun _ => rfl) ?_
          obtain ⟨f14l, f14h, -⟩ := pw_obj (c := 125) h1I rfl
          refine pw_call (m' := 295) (As := [.ref 141, pw_i b, pw_i e]) (rest := []) (ls'' := [some (.ref 141), some (pw_i b), some (pw_i e), none, none, none]) (Nat.le_trans (by decide) hd) E rfl (fun _ => pw_iV rfl rfl rfl rfl (pw_cellI f14h rfl)) (rfl : pm_ent 295 = some (3, 6, 12, 1, pmc_295)) rfl rfl (cm_295_r (pw_dp hd (by decide)) h1I (b) (by omega) (by omega) (e) (by omega) (by omega)) ?_
          rintro h15 v16 ⟨h15I, h15E, x17, rfl, hx17a, hx17b, hx17r⟩
          refine ⟨_, rfl, ?_⟩
          have h15F := h1F.tr (h15E.wk (W' := [125, 164, 165]) (by first | rfl | simp))
          show pw X d h15 294 29 [some (.ref 141), some (pw_i b), some (pw_i e), some (pw_i kk), some (pw_i wt)] [pw_i x17] _
          change (x17 = 1 ∧ pw_gm h15 125 27 ≤ 9 ∧ pw_gm h15 125 29 ≤ 9) ∨ x17 = 0 at hx17r
          rcases (by omega : x17 = 1 ∨ x17 = 0) with hb18 | hb18
          · skip
            refine pw_if E (pc' := 52) rfl (by decide) (by omega) (by omega) ?_ ?_
            · intro hc19
              change x17 = (0 : Int) at hc19
              exfalso; omega
            · intro hc20
              change ¬ (x17 = (0 : Int)) at hc20
              refine pw_ld E (pc' := 33) (st' := [pw_i kk]) rfl (fun _ => rfl) ?_
              refine pw_i2l E (pc' := 34) rfl rfl (by omega) (by omega) ?_
              refine pw_ld E (pc' := 35) (st' := [.ref 141, .long (Int64.ofInt kk)]) rfl (fun _ => rfl) ?_
              refine pw_getM h15I E (c := 125) (k := 27) (pc' := 38) rfl rfl rfl rfl rfl rfl (fun hf21a hf21b => ?_)
              refine pw_lcmpC E (pc' := 39) rfl rfl (by omega) (by omega) (by omega) (by omega) (fun c22 hc22 => ?_)
              refine pw_if E (pc' := 52) rfl (by decide) (by omega) (by omega) ?_ ?_
              · intro hc23
                change (0 : Int) < c22 at hc23
                refine pw_ld E (pc' := 55) (st' := [.long (Int64.ofInt ((-1)))]) rfl (fun _ => rfl) ?_
                refine pw_lret E rfl ?_
                exact ⟨h15I, h15F, ⟨_, rfl⟩⟩
              · intro hc24
                change ¬ ((0 : Int) < c22) at hc24
                refine pw_ld E (pc' := 43) (st' := [pw_i kk]) rfl (fun _ => rfl) ?_
                refine pw_i2l E (pc' := 44) rfl rfl (by omega) (by omega) ?_
                refine pw_ld E (pc' := 45) (st' := [.ref 141, .long (Int64.ofInt kk)]) rfl (fun _ => rfl) ?_
                refine pw_getM h15I E (c := 125) (k := 29) (pc' := 48) rfl rfl rfl rfl rfl rfl (fun hf25a hf25b => ?_)
                refine pw_lcmpC E (pc' := 49) rfl rfl (by omega) (by omega) (by omega) (by omega) (fun c26 hc26 => ?_)
                refine pw_if E (pc' := 56) rfl (by decide) (by omega) (by omega) ?_ ?_
                · intro hc27
                  change c26 ≤ (0 : Int) at hc27
                  refine pw_ld E (pc' := 57) (st' := [.ref 141]) rfl (fun _ => rfl) ?_
                  refine pw_ld E (pc' := 58) (st' := [pw_i kk, .ref 141]) rfl (fun _ => rfl) ?_
                  obtain ⟨f28l, f28h, -⟩ := pw_obj (c := 125) h15I rfl
                  refine pw_call (m' := 296) (As := [.ref 141, pw_i kk]) (rest := []) (ls'' := [some (.ref 141), some (pw_i kk), none, none, none, none, none]) (Nat.le_trans (by decide) hd) E rfl (fun _ => pw_iV rfl rfl rfl rfl (pw_cellI f28h rfl)) (rfl : pm_ent 296 = some (2, 7, 12, 4, pmc_296)) rfl rfl (cm_296_r (pw_dp hd (by decide)) h15I (kk) (by omega) (by omega) (by omega) (by omega) (by omega) (by omega)) ?_
                  rintro h29 v30 ⟨h29I, h29E, hq31, rfl⟩
                  refine ⟨_, rfl, ?_⟩
                  have h29F := h15F.tr (h29E.wk (W' := [125, 164, 165]) (by first | rfl | simp))
                  show pw X d h29 294 61 [some (.ref 141), some (pw_i b), some (pw_i e), some (pw_i kk), some (pw_i wt)] [] _
                  refine pw_ld E (pc' := 62) (st' := [.ref 141]) rfl (fun _ => rfl) ?_
                  refine pw_ld E (pc' := 64) (st' := [pw_i wt, .ref 141]) rfl (fun _ => rfl) ?_
                  obtain ⟨f32l, f32h, -⟩ := pw_obj (c := 125) h29I rfl
                  refine pw_call (m' := 222) (As := [.ref 141, pw_i wt]) (rest := []) (ls'' := [some (.ref 141), some (pw_i wt), none, none]) (Nat.le_trans (by decide) hd) E rfl (fun _ => pw_iV rfl rfl rfl rfl (pw_cellI f32h rfl)) (rfl : pm_ent 222 = some (2, 4, 12, 2, pmc_222)) rfl rfl (cm_222 (pw_dp hd (by decide)) h29I (wt) (by omega) (by omega) (by omega)) ?_
                  rintro u34 v33 ⟨rfl, w35, rfl⟩
                  refine ⟨_, rfl, ?_⟩
                  show pw X d h29 294 67 [some (.ref 141), some (pw_i b), some (pw_i e), some (pw_i kk), some (pw_i wt)] [.long w35] _
                  refine pw_lret E rfl ?_
                  exact ⟨h29I, h29F, ⟨_, rfl⟩⟩
                · intro hc36
                  change ¬ (c26 ≤ (0 : Int)) at hc36
                  refine pw_ld E (pc' := 55) (st' := [.long (Int64.ofInt ((-1)))]) rfl (fun _ => rfl) ?_
                  refine pw_lret E rfl ?_
                  exact ⟨h15I, h15F, ⟨_, rfl⟩⟩
          · skip
            refine pw_if E (pc' := 52) rfl (by decide) (by omega) (by omega) ?_ ?_
            · intro hc38
              change x17 = (0 : Int) at hc38
              refine pw_ld E (pc' := 55) (st' := [.long (Int64.ofInt ((-1)))]) rfl (fun _ => rfl) ?_
              refine pw_lret E rfl ?_
              exact ⟨h15I, h15F, ⟨_, rfl⟩⟩
            · intro hc39
              change ¬ (x17 = (0 : Int)) at hc39
              exfalso; omega
      · skip
        refine pw_if E (pc' := 52) rfl (by decide) (by omega) (by omega) ?_ ?_
        · intro hc41
          change x10 = (0 : Int) at hc41
          refine pw_ld E (pc' := 55) (st' := [.long (Int64.ofInt ((-1)))]) rfl (fun _ => rfl) ?_
          refine pw_lret E rfl ?_
          exact ⟨h1I, h1F, ⟨_, rfl⟩⟩
        · intro hc42
          change ¬ (x10 = (0 : Int)) at hc42
          exfalso; omega
  · skip
    refine pw_if E (pc' := 52) rfl (by decide) (by omega) (by omega) ?_ ?_
    · intro hc44
      change x4 = (0 : Int) at hc44
      refine pw_ld E (pc' := 55) (st' := [.long (Int64.ofInt ((-1)))]) rfl (fun _ => rfl) ?_
      refine pw_lret E rfl ?_
      exact ⟨h1I, h1F, ⟨_, rfl⟩⟩
    · intro hc45
      change ¬ (x4 = (0 : Int)) at hc45
      exfalso; omega
set_option maxHeartbeats 4000000 in
theorem cm_300 {X : List (Nat × List Value)} {d : Nat} {h : pm_H} (hd : 6 ≤ d) (I : pw_I h) (b : Int) (hb1 : (-2147483648) ≤ b) (hb2 : b ≤ 2147483647) (e : Int) (he1 : (-2147483648) ≤ e) (he2 : e ≤ 2147483647) (p : Int) (hp1 : (-2147483648) ≤ p) (hp2 : p ≤ 2147483647) : pw X d h 300 0 [some (.ref 141), some (pw_i b), some (pw_i e), some (pw_i p), none] [] (fun h' v => pw_I h' ∧ pw_E [125, 164, 165] h h' ∧ ∃ a : Int, v = .inl (some (pw_i a)) ∧ (-2147483648) ≤ a ∧ a ≤ 2147483647) := by
  have E : pm_ent 300 = some (4, 5, 12, 0, pmc_300) := rfl
  have E0 : pw_E [125, 164, 165] h h := pw_E.rf _ _
  refine pw_ld E (pc' := 1) (st' := [.ref 141]) rfl (fun _ => rfl) ?_
  refine pw_ld E (pc' := 2) (st' := [pw_i 0, .ref 141]) rfl (fun _ => rfl) ?_
  refine pw_putI I E (c := 125) (k := 0) (pc' := 5) rfl rfl rfl rfl (by omega) (by omega) (by omega) (by omega) rfl rfl ?_
  intro h1I h1E
  generalize h1w : pw_w h 125 0 (pw_i 0) = h1 at h1I h1E ⊢
  have h1F := E0.tr (h1E.wk (W' := [125, 164, 165]) (by first | rfl | simp))
  refine pw_ld E (pc' := 6) (st' := [pw_i p]) rfl (fun _ => rfl) ?_
  refine pw_ld E (pc' := 7) (st' := [pw_i 1, pw_i p]) rfl (fun _ => rfl) ?_
  refine pw_bip E (pc' := 9) rfl rfl (by decide) ?_
  refine pw_call (m' := 202) (As := [pw_i p, pw_i 1, pw_i 100]) (rest := []) (ls'' := [some (pw_i p), some (pw_i 1), some (pw_i 100)]) (Nat.le_trans (by decide) hd) E rfl (fun _ => pw_iS rfl rfl rfl) (rfl : pm_ent 202 = some (3, 3, 12, 1, pmc_202)) rfl rfl (cm_202 (pw_dp hd (by decide)) h1I (p) (by omega) (by omega) (1) (by omega) (by omega) (100) (by omega) (by omega)) ?_
  rintro u3 v2 ⟨rfl, x4, rfl, hx4a, hx4b, hx4r⟩
  refine ⟨_, rfl, ?_⟩
  show pw X d h1 300 12 [some (.ref 141), some (pw_i b), some (pw_i e), some (pw_i p), none] [pw_i x4] _
  change (x4 = 1 ∧ 1 ≤ p ∧ p ≤ 100) ∨ (x4 = 0 ∧ ¬ (1 ≤ p ∧ p ≤ 100)) at hx4r
  rcases (by omega : x4 = 1 ∨ x4 = 0) with hb5 | hb5
  · skip
    refine pw_if E (pc' := 24) rfl (by decide) (by omega) (by omega) ?_ ?_
    · intro hc6
      change x4 = (0 : Int) at hc6
      exfalso; omega
    · intro hc7
      change ¬ (x4 = (0 : Int)) at hc7
      refine pw_ld E (pc' := 16) (st' := [.ref 141]) rfl (fun _ => rfl) ?_
      refine pw_ld E (pc' := 17) (st' := [pw_i b, .ref 141]) rfl (fun _ => rfl) ?_
      refine pw_ld E (pc' := 18) (st' := [pw_i e, pw_i b, .ref 141]) rfl (fun _ => rfl) ?_
      obtain ⟨f8l, f8h, -⟩ := pw_obj (c := 125) h1I rfl
      refine pw_call (m' := 295) (As := [.ref 141, pw_i b, pw_i e]) (rest := []) (ls'' := [some (.ref 141), some (pw_i b), some (pw_i e), none, none, none]) (Nat.le_trans (by decide) hd) E rfl (fun _ => pw_iV rfl rfl rfl rfl (pw_cellI f8h rfl)) (rfl : pm_ent 295 = some (3, 6, 12, 1, pmc_295)) rfl rfl (cm_295_r (pw_dp hd (by decide)) h1I (b) (by omega) (by omega) (e) (by omega) (by omega)) ?_
      rintro h9 v10 ⟨h9I, h9E, x11, rfl, hx11a, hx11b, hx11r⟩
      refine ⟨_, rfl, ?_⟩
      have h9F := h1F.tr (h9E.wk (W' := [125, 164, 165]) (by first | rfl | simp))
      show pw X d h9 300 21 [some (.ref 141), some (pw_i b), some (pw_i e), some (pw_i p), none] [pw_i x11] _
      change (x11 = 1 ∧ pw_gm h9 125 27 ≤ 9 ∧ pw_gm h9 125 29 ≤ 9) ∨ x11 = 0 at hx11r
      rcases (by omega : x11 = 1 ∨ x11 = 0) with hb12 | hb12
      · skip
        refine pw_if E (pc' := 26) rfl (by decide) (by omega) (by omega) ?_ ?_
        · intro hc13
          change x11 ≠ (0 : Int) at hc13
          refine pw_ld E (pc' := 27) (st' := [pw_i 1]) rfl (fun _ => rfl) ?_
          refine pw_ist E (pc' := 29) (ls' := [some (.ref 141), some (pw_i b), some (pw_i e), some (pw_i p), some (pw_i 1)]) rfl rfl rfl rfl ?_
          have L29 : ∀ (n29 : Nat) (k29_4 : Int) (gh29 : pm_H), pw_I gh29 → pw_E [125, 164, 165] h gh29 → 1 ≤ k29_4 → k29_4 ≤ 10 → pw_gm gh29 125 27 ≤ 9 → pw_gm gh29 125 29 ≤ 9 → (10 - k29_4).toNat = n29 → pw X d gh29 300 29 [some (.ref 141), some (pw_i b), some (pw_i e), some (pw_i p), some (pw_i k29_4)] [] (fun h' v => pw_I h' ∧ pw_E [125, 164, 165] h h' ∧ ∃ a : Int, v = .inl (some (pw_i a)) ∧ (-2147483648) ≤ a ∧ a ≤ 2147483647) := by
            intro n29
            induction n29 using Nat.strongRecOn with
            | ind n29 ih29 =>
              intro k29_4 gh29 I29 E29 k29_4a k29_4b hx29_0 hx29_1 hm29
              refine pw_ld E (pc' := 31) (st' := [pw_i k29_4]) rfl (fun _ => rfl) ?_
              refine pw_i2l E (pc' := 32) rfl rfl (by omega) (by omega) ?_
              refine pw_ld E (pc' := 33) (st' := [.ref 141, .long (Int64.ofInt k29_4)]) rfl (fun _ => rfl) ?_
              refine pw_getM I29 E (c := 125) (k := 27) (pc' := 36) rfl rfl rfl rfl rfl rfl (fun hf14a hf14b => ?_)
              refine pw_lcmpC E (pc' := 37) rfl rfl (by omega) (by omega) (by omega) (by omega) (fun c15 hc15 => ?_)
              refine pw_if E (pc' := 85) rfl (by decide) (by omega) (by omega) ?_ ?_
              · intro hc16
                change (0 : Int) < c15 at hc16
                refine pw_ld E (pc' := 86) (st' := [pw_i ((-1))]) rfl (fun _ => rfl) ?_
                refine pw_iret E rfl ?_
                exact ⟨I29, E29, ⟨_, rfl, by omega, by omega⟩⟩
              · intro hc17
                change ¬ ((0 : Int) < c15) at hc17
                refine pw_ld E (pc' := 42) (st' := [pw_i k29_4]) rfl (fun _ => rfl) ?_
                refine pw_i2l E (pc' := 43) rfl rfl (by omega) (by omega) ?_
                refine pw_ld E (pc' := 44) (st' := [.ref 141, .long (Int64.ofInt k29_4)]) rfl (fun _ => rfl) ?_
                refine pw_getM I29 E (c := 125) (k := 29) (pc' := 47) rfl rfl rfl rfl rfl rfl (fun hf18a hf18b => ?_)
                refine pw_lcmpC E (pc' := 48) rfl rfl (by omega) (by omega) (by omega) (by omega) (fun c19 hc19 => ?_)
                refine pw_if E (pc' := 85) rfl (by decide) (by omega) (by omega) ?_ ?_
                · intro hc20
                  change (0 : Int) < c19 at hc20
                  refine pw_ld E (pc' := 86) (st' := [pw_i ((-1))]) rfl (fun _ => rfl) ?_
                  refine pw_iret E rfl ?_
                  exact ⟨I29, E29, ⟨_, rfl, by omega, by omega⟩⟩
                · intro hc21
                  change ¬ ((0 : Int) < c19) at hc21
                  refine pw_ld E (pc' := 52) (st' := [.ref 141]) rfl (fun _ => rfl) ?_
                  refine pw_ld E (pc' := 54) (st' := [pw_i k29_4, .ref 141]) rfl (fun _ => rfl) ?_
                  obtain ⟨f22l, f22h, -⟩ := pw_obj (c := 125) I29 rfl
                  refine pw_call (m' := 296) (As := [.ref 141, pw_i k29_4]) (rest := []) (ls'' := [some (.ref 141), some (pw_i k29_4), none, none, none, none, none]) (Nat.le_trans (by decide) hd) E rfl (fun _ => pw_iV rfl rfl rfl rfl (pw_cellI f22h rfl)) (rfl : pm_ent 296 = some (2, 7, 12, 4, pmc_296)) rfl rfl (cm_296_r (pw_dp hd (by decide)) I29 (k29_4) (by omega) (by omega) (by omega) (by omega) (by omega) (by omega)) ?_
                  rintro h23 v24 ⟨h23I, h23E, hq25, rfl⟩
                  refine ⟨_, rfl, ?_⟩
                  have h23F := E29.tr (h23E.wk (W' := [125, 164, 165]) (by first | rfl | simp))
                  show pw X d h23 300 57 [some (.ref 141), some (pw_i b), some (pw_i e), some (pw_i p), some (pw_i k29_4)] [] _
                  refine pw_ld E (pc' := 60) (st' := [.long (Int64.ofInt 100)]) rfl (fun _ => rfl) ?_
                  refine pw_ld E (pc' := 61) (st' := [.ref 141, .long (Int64.ofInt 100)]) rfl (fun _ => rfl) ?_
                  refine pw_getL h23I E (c := 125) (k := 24) (pc' := 64) rfl rfl rfl rfl rfl rfl ?_
                  refine pw_ld E (pc' := 65) (st' := [.long ((Int64.ofInt 100) * (pw_gl h23 125 24))]) rfl (fun _ => rfl) ?_
                  refine pw_ld E (pc' := 66) (st' := [pw_i p, .long ((Int64.ofInt 100) * (pw_gl h23 125 24))]) rfl (fun _ => rfl) ?_
                  refine pw_i2l E (pc' := 67) rfl rfl (by omega) (by omega) ?_
                  refine pw_ld E (pc' := 68) (st' := [.ref 141, .long (Int64.ofInt p), .long ((Int64.ofInt 100) * (pw_gl h23 125 24))]) rfl (fun _ => rfl) ?_
                  refine pw_getM h23I E (c := 125) (k := 25) (pc' := 71) rfl rfl rfl rfl rfl rfl (fun hf26a hf26b => ?_)
                  have hm27 := pw_mulB (a := p) (b := pw_gm h23 125 25) (A := 100) (B := 1099511627776) (by omega) (by omega) (by omega) (by omega)
                  refine pw_lmul E (pc' := 72) rfl rfl ?_
                  refine pw_lcmp E (pc' := 73) rfl rfl (fun c28 hc28 => ?_)
                  refine pw_if E (pc' := 79) rfl (by decide) (by omega) (by omega) ?_ ?_
                  · intro hc29
                    change c28 < (0 : Int) at hc29
                    refine pw_inc E (pc' := 82) (ls' := [some (.ref 141), some (pw_i b), some (pw_i e), some (pw_i p), some (pw_i (k29_4 + 1))]) rfl rfl rfl rfl ?_
                    refine pw_goto E (pc' := 29) rfl (by decide) ?_
                    exact ih29 _ (by omega) (k29_4 + 1) h23 h23I h23F (by omega) (by omega) (by omega) (by omega) rfl
                  · intro hc30
                    change ¬ (c28 < (0 : Int)) at hc30
                    refine pw_ld E (pc' := 78) (st' := [pw_i k29_4]) rfl (fun _ => rfl) ?_
                    refine pw_iret E rfl ?_
                    exact ⟨h23I, h23F, ⟨_, rfl, by omega, by omega⟩⟩
          exact L29 _ (1) h9 h9I h9F (by omega) (by omega) (by omega) (by omega) rfl
        · intro hc31
          change ¬ (x11 ≠ (0 : Int)) at hc31
          exfalso; omega
      · skip
        refine pw_if E (pc' := 26) rfl (by decide) (by omega) (by omega) ?_ ?_
        · intro hc33
          change x11 ≠ (0 : Int) at hc33
          exfalso; omega
        · intro hc34
          change ¬ (x11 ≠ (0 : Int)) at hc34
          refine pw_ld E (pc' := 25) (st' := [pw_i ((-1))]) rfl (fun _ => rfl) ?_
          refine pw_iret E rfl ?_
          exact ⟨h9I, h9F, ⟨_, rfl, by omega, by omega⟩⟩
  · skip
    refine pw_if E (pc' := 24) rfl (by decide) (by omega) (by omega) ?_ ?_
    · intro hc36
      change x4 = (0 : Int) at hc36
      refine pw_ld E (pc' := 25) (st' := [pw_i ((-1))]) rfl (fun _ => rfl) ?_
      refine pw_iret E rfl ?_
      exact ⟨h1I, h1F, ⟨_, rfl, by omega, by omega⟩⟩
    · intro hc37
      change ¬ (x4 = (0 : Int)) at hc37
      exfalso; omega
set_option maxHeartbeats 4000000 in
theorem cm_233 {X : List (Nat × List Value)} {d : Nat} {h : pm_H} (hd : 5 ≤ d) (I : pw_I h) (b : Int) (hb1 : (-2147483648) ≤ b) (hb2 : b ≤ 2147483647) (e : Int) (he1 : (-2147483648) ≤ e) (he2 : e ≤ 2147483647) (wt : Int) (hwt1 : (-2147483648) ≤ wt) (hwt2 : wt ≤ 2147483647) : pw X d h 233 0 [some (.ref 141), some (pw_i b), some (pw_i e), some (pw_i wt), none, none, none, none, none, none, none, none, none, none, none, none, none, none, none, none, none, none, none] [] (fun h' v => pw_I h' ∧ pw_E [125, 144] h h' ∧ ∃ w : Int64, v = .inl (some (.long w))) := by
  have E : pm_ent 233 = some (4, 23, 12, 2, pmc_233) := rfl
  have E0 : pw_E [125, 144] h h := pw_E.rf _ _
  refine pw_ld E (pc' := 1) (st' := [.ref 141]) rfl (fun _ => rfl) ?_
  refine pw_ld E (pc' := 2) (st' := [pw_i 0, .ref 141]) rfl (fun _ => rfl) ?_
  refine pw_putI I E (c := 125) (k := 0) (pc' := 5) rfl rfl rfl rfl (by omega) (by omega) (by omega) (by omega) rfl rfl ?_
  intro h1I h1E
  generalize h1w : pw_w h 125 0 (pw_i 0) = h1 at h1I h1E ⊢
  have h1F := E0.tr (h1E.wk (W' := [125, 144]) (by first | rfl | simp))
  refine pw_ld E (pc' := 6) (st' := [pw_i b]) rfl (fun _ => rfl) ?_
  refine pw_ld E (pc' := 7) (st' := [pw_i e, pw_i b]) rfl (fun _ => rfl) ?_
  refine pw_call (m' := 213) (As := [pw_i b, pw_i e]) (rest := []) (ls'' := [some (pw_i b), some (pw_i e)]) (Nat.le_trans (by decide) hd) E rfl (fun _ => pw_iS rfl rfl rfl) (rfl : pm_ent 213 = some (2, 2, 12, 1, pmc_213)) rfl rfl (cm_213 (pw_dp hd (by decide)) h1I (b) (by omega) (by omega) (e) (by omega) (by omega)) ?_
  rintro u3 v2 ⟨rfl, x4, rfl, hx4a, hx4b, hx4r⟩
  refine ⟨_, rfl, ?_⟩
  show pw X d h1 233 10 [some (.ref 141), some (pw_i b), some (pw_i e), some (pw_i wt), none, none, none, none, none, none, none, none, none, none, none, none, none, none, none, none, none, none, none] [pw_i x4] _
  change (x4 = 1 ∧ 0 ≤ b ∧ b ≤ 11 ∧ 0 ≤ e ∧ e ≤ 11) ∨ x4 = 0 at hx4r
  rcases (by omega : x4 = 1 ∨ x4 = 0) with hb5 | hb5
  · skip
    refine pw_if E (pc' := 46) rfl (by decide) (by omega) (by omega) ?_ ?_
    · intro hc6
      change x4 = (0 : Int) at hc6
      exfalso; omega
    · intro hc7
      change ¬ (x4 = (0 : Int)) at hc7
      refine pw_ld E (pc' := 14) (st' := [pw_i wt]) rfl (fun _ => rfl) ?_
      refine pw_call (m' := 217) (As := [pw_i wt]) (rest := []) (ls'' := [some (pw_i wt)]) (Nat.le_trans (by decide) hd) E rfl (fun _ => pw_iS rfl rfl rfl) (rfl : pm_ent 217 = some (1, 1, 12, 1, pmc_217)) rfl rfl (cm_217 (pw_dp hd (by decide)) h1I (wt) (by omega) (by omega)) ?_
      rintro u9 v8 ⟨rfl, x10, rfl, hx10a, hx10b, hx10r⟩
      refine ⟨_, rfl, ?_⟩
      show pw X d h1 233 17 [some (.ref 141), some (pw_i b), some (pw_i e), some (pw_i wt), none, none, none, none, none, none, none, none, none, none, none, none, none, none, none, none, none, none, none] [pw_i x10] _
      change (x10 = 1 ∧ 0 ≤ wt ∧ wt ≤ 1) ∨ (x10 = 0 ∧ ¬ (0 ≤ wt ∧ wt ≤ 1)) at hx10r
      rcases (by omega : x10 = 1 ∨ x10 = 0) with hb11 | hb11
      · skip
        refine pw_if E (pc' := 46) rfl (by decide) (by omega) (by omega) ?_ ?_
        · intro hc12
          change x10 = (0 : Int) at hc12
          exfalso; omega
        · intro hc13
          change ¬ (x10 = (0 : Int)) at hc13
          refine pw_ld E (pc' := 21) (st' := [.ref 141]) rfl (fun _ => rfl) ?_
          refine pw_ld E (pc' := 22) (st' := [pw_i b, .ref 141]) rfl (fun _ => rfl) ?_
          refine pw_ld E (pc' := 23) (st' := [pw_i e, pw_i b, .ref 141]) rfl (fun _ => rfl) ?_
          refine pw_ld E (pc' := 24) (st' := [pw_i ((-1)), pw_i e, pw_i b, .ref 141]) rfl (fun _ => rfl) ?_
          obtain ⟨f14l, f14h, -⟩ := pw_obj (c := 125) h1I rfl
          refine pw_call (m' := 218) (As := [.ref 141, pw_i b, pw_i e, pw_i ((-1))]) (rest := []) (ls'' := [some (.ref 141), some (pw_i b), some (pw_i e), some (pw_i ((-1))), none]) (Nat.le_trans (by decide) hd) E rfl (fun _ => pw_iV rfl rfl rfl rfl (pw_cellI f14h rfl)) (rfl : pm_ent 218 = some (4, 5, 12, 1, pmc_218)) rfl rfl (cm_218_r (pw_dp hd (by decide)) h1I (b) (by omega) (by omega) (e) (by omega) (by omega) ((-1)) (by omega) (by omega)) ?_
          rintro h15 v16 ⟨h15I, h15E, x17, rfl, hx17a, hx17b, hx17r⟩
          refine ⟨_, rfl, ?_⟩
          have h15F := h1F.tr (h15E.wk (W' := [125, 144]) (by first | rfl | simp))
          show pw X d h15 233 27 [some (.ref 141), some (pw_i b), some (pw_i e), some (pw_i wt), none, none, none, none, none, none, none, none, none, none, none, none, none, none, none, none, none, none, none] [pw_i x17] _
          change ((x17 = 1 ∧ 1 ≤ pw_gm h15 125 25 ∧ pw_gm h15 125 25 ≤ 576) ∨ x17 = 0) ∧ pw_gm h15 125 27 = pw_c0 h1 b e 24 ∧ pw_gm h15 125 29 = pw_c1 h1 b e 24 at hx17r
          rcases (by omega : x17 = 1 ∨ x17 = 0) with hb18 | hb18
          · skip
            refine pw_if E (pc' := 46) rfl (by decide) (by omega) (by omega) ?_ ?_
            · intro hc19
              change x17 = (0 : Int) at hc19
              exfalso; omega
            · intro hc20
              change ¬ (x17 = (0 : Int)) at hc20
              refine pw_ld E (pc' := 31) (st' := [.ref 141]) rfl (fun _ => rfl) ?_
              refine pw_getM h15I E (c := 125) (k := 27) (pc' := 34) rfl rfl rfl rfl rfl rfl (fun hf21a hf21b => ?_)
              refine pw_ld E (pc' := 35) (st' := [.ref 141, .long (Int64.ofInt (pw_gm h15 125 27))]) rfl (fun _ => rfl) ?_
              refine pw_getM h15I E (c := 125) (k := 29) (pc' := 38) rfl rfl rfl rfl rfl rfl (fun hf22a hf22b => ?_)
              refine pw_ladd E (pc' := 39) rfl rfl ?_
              refine pw_ld E (pc' := 42) (st' := [.long (Int64.ofInt 14), .long (Int64.ofInt ((pw_gm h15 125 27) + (pw_gm h15 125 29)))]) rfl (fun _ => rfl) ?_
              refine pw_lcmpC E (pc' := 43) rfl rfl (by omega) (by omega) (by omega) (by omega) (fun c23 hc23 => ?_)
              refine pw_if E (pc' := 50) rfl (by decide) (by omega) (by omega) ?_ ?_
              · intro hc24
                change c23 ≤ (0 : Int) at hc24
                have hc24 := pw_cE I h1F rfl b e 24
                refine pw_ld E (pc' := 51) (st' := [.ref 141]) rfl (fun _ => rfl) ?_
                refine pw_getL h15I E (c := 125) (k := 24) (pc' := 54) rfl rfl rfl rfl rfl rfl ?_
                refine pw_ld E (pc' := 55) (st' := [.long (Int64.ofInt 0), .long (pw_gl h15 125 24)]) rfl (fun _ => rfl) ?_
                refine pw_lcmp E (pc' := 56) rfl rfl (fun c25 hc25 => ?_)
                refine pw_if E (pc' := 67) rfl (by decide) (by omega) (by omega) ?_ ?_
                · intro hc26
                  change (0 : Int) ≤ c25 at hc26
                  refine pw_ld E (pc' := 68) (st' := [.ref 141]) rfl (fun _ => rfl) ?_
                  refine pw_getL h15I E (c := 125) (k := 24) (pc' := 71) rfl rfl rfl rfl rfl rfl ?_
                  refine pw_lst E (pc' := 73) (ls' := [some (.ref 141), some (pw_i b), some (pw_i e), some (pw_i wt), some (.long (pw_gl h15 125 24)), none, none, none, none, none, none, none, none, none, none, none, none, none, none, none, none, none, none]) rfl rfl rfl rfl ?_
                  refine pw_ld E (pc' := 74) (st' := [.ref 141]) rfl (fun _ => rfl) ?_
                  refine pw_getM h15I E (c := 125) (k := 27) (pc' := 77) rfl rfl rfl rfl rfl rfl (fun hf27a hf27b => ?_)
                  refine pw_lst E (pc' := 79) (ls' := [some (.ref 141), some (pw_i b), some (pw_i e), some (pw_i wt), some (.long (pw_gl h15 125 24)), none, some (.long (Int64.ofInt (pw_gm h15 125 27))), none, none, none, none, none, none, none, none, none, none, none, none, none, none, none, none]) rfl rfl rfl rfl ?_
                  refine pw_ld E (pc' := 80) (st' := [.ref 141]) rfl (fun _ => rfl) ?_
                  refine pw_getM h15I E (c := 125) (k := 29) (pc' := 83) rfl rfl rfl rfl rfl rfl (fun hf28a hf28b => ?_)
                  refine pw_lst E (pc' := 85) (ls' := [some (.ref 141), some (pw_i b), some (pw_i e), some (pw_i wt), some (.long (pw_gl h15 125 24)), none, some (.long (Int64.ofInt (pw_gm h15 125 27))), none, some (.long (Int64.ofInt (pw_gm h15 125 29))), none, none, none, none, none, none, none, none, none, none, none, none, none, none]) rfl rfl rfl rfl ?_
                  refine pw_ld E (pc' := 86) (st' := [.ref 141]) rfl (fun _ => rfl) ?_
                  refine pw_getL h15I E (c := 125) (k := 26) (pc' := 89) rfl rfl rfl rfl rfl rfl ?_
                  refine pw_ld E (pc' := 90) (st' := [.ref 141, .long (pw_gl h15 125 26)]) rfl (fun _ => rfl) ?_
                  refine pw_getL h15I E (c := 125) (k := 28) (pc' := 93) rfl rfl rfl rfl rfl rfl ?_
                  refine pw_ld E (pc' := 94) (st' := [.long ((pw_gl h15 125 26) + (pw_gl h15 125 28))]) rfl (fun _ => rfl) ?_
                  refine pw_lst E (pc' := 96) (ls' := [some (.ref 141), some (pw_i b), some (pw_i e), some (pw_i wt), some (.long (pw_gl h15 125 24)), none, some (.long (Int64.ofInt (pw_gm h15 125 27))), none, some (.long (Int64.ofInt (pw_gm h15 125 29))), none, some (.long ((pw_gl h15 125 26) + (pw_gl h15 125 28))), none, none, none, none, none, none, none, none, none, none, none, none]) rfl rfl rfl rfl ?_
                  refine pw_ld E (pc' := 97) (st' := [pw_i 0]) rfl (fun _ => rfl) ?_
                  refine pw_ist E (pc' := 99) (ls' := [some (.ref 141), some (pw_i b), some (pw_i e), some (pw_i wt), some (.long (pw_gl h15 125 24)), none, some (.long (Int64.ofInt (pw_gm h15 125 27))), none, some (.long (Int64.ofInt (pw_gm h15 125 29))), none, some (.long ((pw_gl h15 125 26) + (pw_gl h15 125 28))), none, some (pw_i 0), none, none, none, none, none, none, none, none, none, none]) rfl rfl rfl rfl ?_
                  refine pw_ld E (pc' := 100) (st' := [pw_i 0]) rfl (fun _ => rfl) ?_
                  refine pw_ist E (pc' := 102) (ls' := [some (.ref 141), some (pw_i b), some (pw_i e), some (pw_i wt), some (.long (pw_gl h15 125 24)), none, some (.long (Int64.ofInt (pw_gm h15 125 27))), none, some (.long (Int64.ofInt (pw_gm h15 125 29))), none, some (.long ((pw_gl h15 125 26) + (pw_gl h15 125 28))), none, some (pw_i 0), some (pw_i 0), none, none, none, none, none, none, none, none, none]) rfl rfl rfl rfl ?_
                  have L102 : ∀ (n102 : Nat) (k102_12 : Int) (k102_13 : Int) (gh102 : pm_H), pw_I gh102 → pw_E [125, 144] h gh102 → 0 ≤ k102_12 → k102_12 ≤ 24 → 0 ≤ k102_13 → k102_13 ≤ 24 → k102_12 = pw_c0 h b e (k102_13).toNat + pw_c1 h b e (k102_13).toNat → k102_12 ≤ k102_13 → (24 - k102_13).toNat = n102 → pw X d gh102 233 102 [some (.ref 141), some (pw_i b), some (pw_i e), some (pw_i wt), some (.long (pw_gl h15 125 24)), none, some (.long (Int64.ofInt (pw_gm h15 125 27))), none, some (.long (Int64.ofInt (pw_gm h15 125 29))), none, some (.long ((pw_gl h15 125 26) + (pw_gl h15 125 28))), none, some (pw_i k102_12), some (pw_i k102_13), none, none, none, none, none, none, none, none, none] [] (fun h' v => pw_I h' ∧ pw_E [125, 144] h h' ∧ ∃ w : Int64, v = .inl (some (.long w))) := by
                    intro n102
                    induction n102 using Nat.strongRecOn with
                    | ind n102 ih102 =>
                      intro k102_12 k102_13 gh102 I102 E102 k102_12a k102_12b k102_13a k102_13b hx102_0 hx102_1 hm102
                      refine pw_ld E (pc' := 104) (st' := [pw_i k102_13]) rfl (fun _ => rfl) ?_
                      refine pw_bip E (pc' := 106) rfl rfl (by decide) ?_
                      refine pw_if2 E (pc' := 144) rfl (by decide) (by omega) (by omega) (by decide) (by decide) ?_ ?_
                      · intro hc29
                        change (24 : Int) ≤ k102_13 at hc29
                        have h24 : (k102_13).toNat = 24 := by omega
                        rw [h24] at hx102_0
                        refine pw_ld E (pc' := 145) (st' := [.long (Int64.ofInt 0)]) rfl (fun _ => rfl) ?_
                        refine pw_lst E (pc' := 147) (ls' := [some (.ref 141), some (pw_i b), some (pw_i e), some (pw_i wt), some (.long (pw_gl h15 125 24)), none, some (.long (Int64.ofInt (pw_gm h15 125 27))), none, some (.long (Int64.ofInt (pw_gm h15 125 29))), none, some (.long ((pw_gl h15 125 26) + (pw_gl h15 125 28))), none, some (pw_i k102_12), some (.long (Int64.ofInt 0)), none, none, none, none, none, none, none, none, none]) rfl rfl rfl rfl ?_
                        refine pw_ld E (pc' := 148) (st' := [.long (Int64.ofInt 0)]) rfl (fun _ => rfl) ?_
                        refine pw_lst E (pc' := 150) (ls' := [some (.ref 141), some (pw_i b), some (pw_i e), some (pw_i wt), some (.long (pw_gl h15 125 24)), none, some (.long (Int64.ofInt (pw_gm h15 125 27))), none, some (.long (Int64.ofInt (pw_gm h15 125 29))), none, some (.long ((pw_gl h15 125 26) + (pw_gl h15 125 28))), none, some (pw_i k102_12), some (.long (Int64.ofInt 0)), none, some (.long (Int64.ofInt 0)), none, none, none, none, none, none, none]) rfl rfl rfl rfl ?_
                        have hpr := pw_p2_r (a := pw_gm h15 125 27) (by omega) (by omega)
                        have hpl := pw_p2_le (a := pw_gm h15 125 27) (b := k102_12) (by omega)
                        refine pw_ld E (pc' := 151) (st' := [pw_i 0]) rfl (fun _ => rfl) ?_
                        refine pw_ist E (pc' := 153) (ls' := [some (.ref 141), some (pw_i b), some (pw_i e), some (pw_i wt), some (.long (pw_gl h15 125 24)), none, some (.long (Int64.ofInt (pw_gm h15 125 27))), none, some (.long (Int64.ofInt (pw_gm h15 125 29))), none, some (.long ((pw_gl h15 125 26) + (pw_gl h15 125 28))), none, some (pw_i k102_12), some (.long (Int64.ofInt 0)), none, some (.long (Int64.ofInt 0)), none, some (pw_i 0), none, none, none, none, none]) rfl rfl rfl rfl ?_
                        have L153 : ∀ (n153 : Nat) (k153_13 : Int64) (k153_15 : Int) (k153_17 : Int) (k153_18 : Option Value) (k153_19 : Option Value) (k153_21 : Option Value), 0 ≤ k153_15 → k153_15 ≤ 16384 → 0 ≤ k153_17 → k153_17 ≤ 16384 → k153_15 ≤ k153_17 → (pw_p2 (pw_gm h15 125 27) - 1 < k153_17 → 1 ≤ k153_15) → (16384 - k153_17).toNat = n153 → pw X d gh102 233 153 [some (.ref 141), some (pw_i b), some (pw_i e), some (pw_i wt), some (.long (pw_gl h15 125 24)), none, some (.long (Int64.ofInt (pw_gm h15 125 27))), none, some (.long (Int64.ofInt (pw_gm h15 125 29))), none, some (.long ((pw_gl h15 125 26) + (pw_gl h15 125 28))), none, some (pw_i k102_12), some (.long k153_13), none, some (.long (Int64.ofInt k153_15)), none, some (pw_i k153_17), k153_18, k153_19, none, k153_21, none] [] (fun h' v => pw_I h' ∧ pw_E [125, 144] h h' ∧ ∃ w : Int64, v = .inl (some (.long w))) := by
                          intro n153
                          induction n153 using Nat.strongRecOn with
                          | ind n153 ih153 =>
                            intro k153_13 k153_15 k153_17 k153_18 k153_19 k153_21 k153_15a k153_15b k153_17a k153_17b hx153_0 hx153_1 hm153
                            refine pw_ld E (pc' := 155) (st' := [pw_i k153_17]) rfl (fun _ => rfl) ?_
                            refine pw_ld E (pc' := 156) (st' := [pw_i 1, pw_i k153_17]) rfl (fun _ => rfl) ?_
                            refine pw_ld E (pc' := 158) (st' := [pw_i k102_12, pw_i 1, pw_i k153_17]) rfl (fun _ => rfl) ?_
                            refine pw_shlE E (pc' := 159) rfl rfl (by omega) (by omega) ?_
                            have hp30 := pw_p2_r (a := k102_12) (by omega) (by omega)
                            refine pw_if2 E (pc' := 288) rfl (by decide) (by omega) (by omega) (by omega) (by omega) ?_ ?_
                            · intro hc31
                              change pw_p2 k102_12 ≤ k153_17 at hc31
                              refine pw_ld E (pc' := 289) (st' := [.ref 141]) rfl (fun _ => rfl) ?_
                              refine pw_ld E (pc' := 291) (st' := [.long k153_13, .ref 141]) rfl (fun _ => rfl) ?_
                              refine pw_putL I102 E (c := 125) (k := 24) (pc' := 294) rfl rfl rfl rfl rfl rfl ?_
                              intro h32I h32E
                              generalize h32w : pw_w gh102 125 24 (.long k153_13) = h32 at h32I h32E ⊢
                              have h32F := E102.tr (h32E.wk (W' := [125, 144]) (by first | rfl | simp))
                              refine pw_ld E (pc' := 295) (st' := [.ref 141]) rfl (fun _ => rfl) ?_
                              refine pw_ld E (pc' := 297) (st' := [.long (Int64.ofInt k153_15), .ref 141]) rfl (fun _ => rfl) ?_
                              refine pw_putM h32I E (c := 125) (k := 25) (pc' := 300) rfl rfl rfl rfl (by omega) (by omega) (by omega) (by omega) rfl rfl ?_
                              intro h33I h33E
                              generalize h33w : pw_w h32 125 25 (.long (Int64.ofInt k153_15)) = h33 at h33I h33E ⊢
                              have h33F := h32F.tr (h33E.wk (W' := [125, 144]) (by first | rfl | simp))
                              refine pw_ld E (pc' := 301) (st' := [.ref 141]) rfl (fun _ => rfl) ?_
                              refine pw_ld E (pc' := 302) (st' := [pw_i wt, .ref 141]) rfl (fun _ => rfl) ?_
                              have he34 : pw_gm h33 125 25 = k153_15 := by rw [← h33w]; exact pw_gm_eq (c := 125) (k := 25) h32I rfl rfl (by omega) (by omega)
                              obtain ⟨f35l, f35h, -⟩ := pw_obj (c := 125) h33I rfl
                              refine pw_call (m' := 222) (As := [.ref 141, pw_i wt]) (rest := []) (ls'' := [some (.ref 141), some (pw_i wt), none, none]) (Nat.le_trans (by decide) hd) E rfl (fun _ => pw_iV rfl rfl rfl rfl (pw_cellI f35h rfl)) (rfl : pm_ent 222 = some (2, 4, 12, 2, pmc_222)) rfl rfl (cm_222 (pw_dp hd (by decide)) h33I (wt) (by omega) (by omega) (by omega)) ?_
                              rintro u37 v36 ⟨rfl, w38, rfl⟩
                              refine ⟨_, rfl, ?_⟩
                              show pw X d h33 233 305 [some (.ref 141), some (pw_i b), some (pw_i e), some (pw_i wt), some (.long (pw_gl h15 125 24)), none, some (.long (Int64.ofInt (pw_gm h15 125 27))), none, some (.long (Int64.ofInt (pw_gm h15 125 29))), none, some (.long ((pw_gl h15 125 26) + (pw_gl h15 125 28))), none, some (pw_i k102_12), some (.long k153_13), none, some (.long (Int64.ofInt k153_15)), none, some (pw_i k153_17), k153_18, k153_19, none, k153_21, none] [.long w38] _
                              refine pw_lret E rfl ?_
                              exact ⟨h33I, h33F, ⟨_, rfl⟩⟩
                            · intro hc39
                              change ¬ (pw_p2 k102_12 ≤ k153_17) at hc39
                              refine pw_ld E (pc' := 163) (st' := [pw_i 0]) rfl (fun _ => rfl) ?_
                              refine pw_ist E (pc' := 165) (ls' := [some (.ref 141), some (pw_i b), some (pw_i e), some (pw_i wt), some (.long (pw_gl h15 125 24)), none, some (.long (Int64.ofInt (pw_gm h15 125 27))), none, some (.long (Int64.ofInt (pw_gm h15 125 29))), none, some (.long ((pw_gl h15 125 26) + (pw_gl h15 125 28))), none, some (pw_i k102_12), some (.long k153_13), none, some (.long (Int64.ofInt k153_15)), none, some (pw_i k153_17), some (pw_i 0), k153_19, none, k153_21, none]) rfl rfl rfl rfl ?_
                              refine pw_ld E (pc' := 166) (st' := [.long (Int64.ofInt 0)]) rfl (fun _ => rfl) ?_
                              refine pw_lst E (pc' := 168) (ls' := [some (.ref 141), some (pw_i b), some (pw_i e), some (pw_i wt), some (.long (pw_gl h15 125 24)), none, some (.long (Int64.ofInt (pw_gm h15 125 27))), none, some (.long (Int64.ofInt (pw_gm h15 125 29))), none, some (.long ((pw_gl h15 125 26) + (pw_gl h15 125 28))), none, some (pw_i k102_12), some (.long k153_13), none, some (.long (Int64.ofInt k153_15)), none, some (pw_i k153_17), some (pw_i 0), some (.long (Int64.ofInt 0)), none, k153_21, none]) rfl rfl rfl rfl ?_
                              refine pw_ld E (pc' := 169) (st' := [pw_i 0]) rfl (fun _ => rfl) ?_
                              refine pw_ist E (pc' := 171) (ls' := [some (.ref 141), some (pw_i b), some (pw_i e), some (pw_i wt), some (.long (pw_gl h15 125 24)), none, some (.long (Int64.ofInt (pw_gm h15 125 27))), none, some (.long (Int64.ofInt (pw_gm h15 125 29))), none, some (.long ((pw_gl h15 125 26) + (pw_gl h15 125 28))), none, some (pw_i k102_12), some (.long k153_13), none, some (.long (Int64.ofInt k153_15)), none, some (pw_i k153_17), some (pw_i 0), some (.long (Int64.ofInt 0)), none, some (pw_i 0), none]) rfl rfl rfl rfl ?_
                              have L171 : ∀ (n171 : Nat) (k171_18 : Int) (k171_19 : Int64) (k171_21 : Int), 0 ≤ k171_18 → k171_18 ≤ 24 → 0 ≤ k171_21 → k171_21 ≤ 24 → k171_18 = pw_bt k153_17 (k171_21).toNat → k171_18 ≤ k171_21 → k171_21 ≤ k102_12 → (24 - k171_21).toNat = n171 → pw X d gh102 233 171 [some (.ref 141), some (pw_i b), some (pw_i e), some (pw_i wt), some (.long (pw_gl h15 125 24)), none, some (.long (Int64.ofInt (pw_gm h15 125 27))), none, some (.long (Int64.ofInt (pw_gm h15 125 29))), none, some (.long ((pw_gl h15 125 26) + (pw_gl h15 125 28))), none, some (pw_i k102_12), some (.long k153_13), none, some (.long (Int64.ofInt k153_15)), none, some (pw_i k153_17), some (pw_i k171_18), some (.long k171_19), none, some (pw_i k171_21), none] [] (fun h' v => pw_I h' ∧ pw_E [125, 144] h h' ∧ ∃ w : Int64, v = .inl (some (.long w))) := by
                                intro n171
                                induction n171 using Nat.strongRecOn with
                                | ind n171 ih171 =>
                                  intro k171_18 k171_19 k171_21 k171_18a k171_18b k171_21a k171_21b hx171_0 hx171_1 hx171_2 hm171
                                  refine pw_ld E (pc' := 173) (st' := [pw_i k171_21]) rfl (fun _ => rfl) ?_
                                  refine pw_ld E (pc' := 175) (st' := [pw_i k102_12, pw_i k171_21]) rfl (fun _ => rfl) ?_
                                  refine pw_if2 E (pc' := 224) rfl (by decide) (by omega) (by omega) (by omega) (by omega) ?_ ?_
                                  · intro hc40
                                    change k102_12 ≤ k171_21 at hc40
                                    have hbt : k153_17 = pw_p2 (pw_gm h15 125 27) - 1 → pw_bt k153_17 (k171_21).toNat = pw_gm h15 125 27 := fun q => by rw [q]; exact pw_bt_p (by omega) (by omega) (by omega)
                                    refine pw_ld E (pc' := 226) (st' := [pw_i k171_18]) rfl (fun _ => rfl) ?_
                                    refine pw_i2l E (pc' := 227) rfl rfl (by omega) (by omega) ?_
                                    refine pw_ld E (pc' := 229) (st' := [.long (Int64.ofInt (pw_gm h15 125 27)), .long (Int64.ofInt k171_18)]) rfl (fun _ => rfl) ?_
                                    refine pw_lcmpC E (pc' := 230) rfl rfl (by omega) (by omega) (by omega) (by omega) (fun c41 hc41 => ?_)
                                    refine pw_if E (pc' := 282) rfl (by decide) (by omega) (by omega) ?_ ?_
                                    · intro hc42
                                      change c41 ≠ (0 : Int) at hc42
                                      refine pw_inc E (pc' := 285) (ls' := [some (.ref 141), some (pw_i b), some (pw_i e), some (pw_i wt), some (.long (pw_gl h15 125 24)), none, some (.long (Int64.ofInt (pw_gm h15 125 27))), none, some (.long (Int64.ofInt (pw_gm h15 125 29))), none, some (.long ((pw_gl h15 125 26) + (pw_gl h15 125 28))), none, some (pw_i k102_12), some (.long k153_13), none, some (.long (Int64.ofInt k153_15)), none, some (pw_i (k153_17 + 1)), some (pw_i k171_18), some (.long k171_19), none, some (pw_i k171_21), none]) rfl rfl rfl rfl ?_
                                      refine pw_goto E (pc' := 153) rfl (by decide) ?_
                                      exact ih153 _ (by omega) (k153_13) (k153_15) (k153_17 + 1) (some (pw_i k171_18)) (some (.long k171_19)) (some (pw_i k171_21))  (by omega) (by omega) (by omega) (by omega) (by omega) (by omega) rfl
                                    · intro hc43
                                      change ¬ (c41 ≠ (0 : Int)) at hc43
                                      refine pw_ld E (pc' := 235) (st' := [.long k171_19]) rfl (fun _ => rfl) ?_
                                      refine pw_ld E (pc' := 237) (st' := [.long (Int64.ofInt (pw_gm h15 125 29)), .long k171_19]) rfl (fun _ => rfl) ?_
                                      refine pw_ld E (pc' := 238) (st' := [.long (k171_19 * (Int64.ofInt (pw_gm h15 125 29)))]) rfl (fun _ => rfl) ?_
                                      refine pw_ld E (pc' := 240) (st' := [.long ((pw_gl h15 125 26) + (pw_gl h15 125 28)), .long (k171_19 * (Int64.ofInt (pw_gm h15 125 29)))]) rfl (fun _ => rfl) ?_
                                      refine pw_ld E (pc' := 242) (st' := [.long k171_19, .long ((pw_gl h15 125 26) + (pw_gl h15 125 28)), .long (k171_19 * (Int64.ofInt (pw_gm h15 125 29)))]) rfl (fun _ => rfl) ?_
                                      refine pw_ld E (pc' := 243) (st' := [.long (((pw_gl h15 125 26) + (pw_gl h15 125 28)) - k171_19), .long (k171_19 * (Int64.ofInt (pw_gm h15 125 29)))]) rfl (fun _ => rfl) ?_
                                      refine pw_ld E (pc' := 245) (st' := [.long (Int64.ofInt (pw_gm h15 125 27)), .long (((pw_gl h15 125 26) + (pw_gl h15 125 28)) - k171_19), .long (k171_19 * (Int64.ofInt (pw_gm h15 125 29)))]) rfl (fun _ => rfl) ?_
                                      refine pw_ld E (pc' := 246) (st' := [.long ((((pw_gl h15 125 26) + (pw_gl h15 125 28)) - k171_19) * (Int64.ofInt (pw_gm h15 125 27))), .long (k171_19 * (Int64.ofInt (pw_gm h15 125 29)))]) rfl (fun _ => rfl) ?_
                                      refine pw_ld E (pc' := 247) (st' := [.long ((k171_19 * (Int64.ofInt (pw_gm h15 125 29))) - ((((pw_gl h15 125 26) + (pw_gl h15 125 28)) - k171_19) * (Int64.ofInt (pw_gm h15 125 27))))]) rfl (fun _ => rfl) ?_
                                      refine pw_lst E (pc' := 249) (ls' := [some (.ref 141), some (pw_i b), some (pw_i e), some (pw_i wt), some (.long (pw_gl h15 125 24)), none, some (.long (Int64.ofInt (pw_gm h15 125 27))), none, some (.long (Int64.ofInt (pw_gm h15 125 29))), none, some (.long ((pw_gl h15 125 26) + (pw_gl h15 125 28))), none, some (pw_i k102_12), some (.long k153_13), none, some (.long (Int64.ofInt k153_15)), none, some (pw_i k153_17), some (pw_i k171_18), some (.long k171_19), none, some (.long ((k171_19 * (Int64.ofInt (pw_gm h15 125 29))) - ((((pw_gl h15 125 26) + (pw_gl h15 125 28)) - k171_19) * (Int64.ofInt (pw_gm h15 125 27))))), none]) rfl rfl rfl rfl ?_
                                      refine pw_ld E (pc' := 251) (st' := [.long (Int64.ofInt k153_15)]) rfl (fun _ => rfl) ?_
                                      refine pw_ld E (pc' := 252) (st' := [.long (Int64.ofInt 1), .long (Int64.ofInt k153_15)]) rfl (fun _ => rfl) ?_
                                      refine pw_ladd E (pc' := 253) rfl rfl ?_
                                      refine pw_lst E (pc' := 255) (ls' := [some (.ref 141), some (pw_i b), some (pw_i e), some (pw_i wt), some (.long (pw_gl h15 125 24)), none, some (.long (Int64.ofInt (pw_gm h15 125 27))), none, some (.long (Int64.ofInt (pw_gm h15 125 29))), none, some (.long ((pw_gl h15 125 26) + (pw_gl h15 125 28))), none, some (pw_i k102_12), some (.long k153_13), none, some (.long (Int64.ofInt (k153_15 + 1))), none, some (pw_i k153_17), some (pw_i k171_18), some (.long k171_19), none, some (.long ((k171_19 * (Int64.ofInt (pw_gm h15 125 29))) - ((((pw_gl h15 125 26) + (pw_gl h15 125 28)) - k171_19) * (Int64.ofInt (pw_gm h15 125 27))))), none]) rfl rfl rfl rfl ?_
                                      refine pw_ld E (pc' := 257) (st' := [.long k153_13]) rfl (fun _ => rfl) ?_
                                      refine pw_ld E (pc' := 259) (st' := [.long ((k171_19 * (Int64.ofInt (pw_gm h15 125 29))) - ((((pw_gl h15 125 26) + (pw_gl h15 125 28)) - k171_19) * (Int64.ofInt (pw_gm h15 125 27)))), .long k153_13]) rfl (fun _ => rfl) ?_
                                      refine pw_ld E (pc' := 261) (st' := [.long (pw_gl h15 125 24), .long ((k171_19 * (Int64.ofInt (pw_gm h15 125 29))) - ((((pw_gl h15 125 26) + (pw_gl h15 125 28)) - k171_19) * (Int64.ofInt (pw_gm h15 125 27)))), .long k153_13]) rfl (fun _ => rfl) ?_
                                      refine pw_lcmp E (pc' := 262) rfl rfl (fun c44 hc44 => ?_)
                                      refine pw_if E (pc' := 274) rfl (by decide) (by omega) (by omega) ?_ ?_
                                      · intro hc45
                                        change (0 : Int) ≤ c44 at hc45
                                        refine pw_ld E (pc' := 275) (st' := [.long (Int64.ofInt 1), .long k153_13]) rfl (fun _ => rfl) ?_
                                        refine pw_goto E (pc' := 279) rfl (by decide) ?_
                                        refine pw_ld E (pc' := 280) (st' := [.long (k153_13 + (Int64.ofInt 1))]) rfl (fun _ => rfl) ?_
                                        refine pw_lst E (pc' := 282) (ls' := [some (.ref 141), some (pw_i b), some (pw_i e), some (pw_i wt), some (.long (pw_gl h15 125 24)), none, some (.long (Int64.ofInt (pw_gm h15 125 27))), none, some (.long (Int64.ofInt (pw_gm h15 125 29))), none, some (.long ((pw_gl h15 125 26) + (pw_gl h15 125 28))), none, some (pw_i k102_12), some (.long (k153_13 + (Int64.ofInt 1))), none, some (.long (Int64.ofInt (k153_15 + 1))), none, some (pw_i k153_17), some (pw_i k171_18), some (.long k171_19), none, some (.long ((k171_19 * (Int64.ofInt (pw_gm h15 125 29))) - ((((pw_gl h15 125 26) + (pw_gl h15 125 28)) - k171_19) * (Int64.ofInt (pw_gm h15 125 27))))), none]) rfl rfl rfl rfl ?_
                                        refine pw_inc E (pc' := 285) (ls' := [some (.ref 141), some (pw_i b), some (pw_i e), some (pw_i wt), some (.long (pw_gl h15 125 24)), none, some (.long (Int64.ofInt (pw_gm h15 125 27))), none, some (.long (Int64.ofInt (pw_gm h15 125 29))), none, some (.long ((pw_gl h15 125 26) + (pw_gl h15 125 28))), none, some (pw_i k102_12), some (.long (k153_13 + (Int64.ofInt 1))), none, some (.long (Int64.ofInt (k153_15 + 1))), none, some (pw_i (k153_17 + 1)), some (pw_i k171_18), some (.long k171_19), none, some (.long ((k171_19 * (Int64.ofInt (pw_gm h15 125 29))) - ((((pw_gl h15 125 26) + (pw_gl h15 125 28)) - k171_19) * (Int64.ofInt (pw_gm h15 125 27))))), none]) rfl rfl rfl rfl ?_
                                        refine pw_goto E (pc' := 153) rfl (by decide) ?_
                                        exact ih153 _ (by omega) (k153_13 + (Int64.ofInt 1)) (k153_15 + 1) (k153_17 + 1) (some (pw_i k171_18)) (some (.long k171_19)) (some (.long ((k171_19 * (Int64.ofInt (pw_gm h15 125 29))) - ((((pw_gl h15 125 26) + (pw_gl h15 125 28)) - k171_19) * (Int64.ofInt (pw_gm h15 125 27))))))  (by omega) (by omega) (by omega) (by omega) (by omega) (by omega) rfl
                                      · intro hc46
                                        change ¬ ((0 : Int) ≤ c44) at hc46
                                        refine pw_ld E (pc' := 267) (st' := [.long ((k171_19 * (Int64.ofInt (pw_gm h15 125 29))) - ((((pw_gl h15 125 26) + (pw_gl h15 125 28)) - k171_19) * (Int64.ofInt (pw_gm h15 125 27)))), .long k153_13]) rfl (fun _ => rfl) ?_
                                        refine pw_ld E (pc' := 268) (st' := [.long (-((k171_19 * (Int64.ofInt (pw_gm h15 125 29))) - ((((pw_gl h15 125 26) + (pw_gl h15 125 28)) - k171_19) * (Int64.ofInt (pw_gm h15 125 27))))), .long k153_13]) rfl (fun _ => rfl) ?_
                                        refine pw_ld E (pc' := 270) (st' := [.long (pw_gl h15 125 24), .long (-((k171_19 * (Int64.ofInt (pw_gm h15 125 29))) - ((((pw_gl h15 125 26) + (pw_gl h15 125 28)) - k171_19) * (Int64.ofInt (pw_gm h15 125 27))))), .long k153_13]) rfl (fun _ => rfl) ?_
                                        refine pw_lcmp E (pc' := 271) rfl rfl (fun c47 hc47 => ?_)
                                        refine pw_if E (pc' := 278) rfl (by decide) (by omega) (by omega) ?_ ?_
                                        · intro hc48
                                          change c47 < (0 : Int) at hc48
                                          refine pw_ld E (pc' := 279) (st' := [.long (Int64.ofInt 0), .long k153_13]) rfl (fun _ => rfl) ?_
                                          refine pw_ld E (pc' := 280) (st' := [.long (k153_13 + (Int64.ofInt 0))]) rfl (fun _ => rfl) ?_
                                          refine pw_lst E (pc' := 282) (ls' := [some (.ref 141), some (pw_i b), some (pw_i e), some (pw_i wt), some (.long (pw_gl h15 125 24)), none, some (.long (Int64.ofInt (pw_gm h15 125 27))), none, some (.long (Int64.ofInt (pw_gm h15 125 29))), none, some (.long ((pw_gl h15 125 26) + (pw_gl h15 125 28))), none, some (pw_i k102_12), some (.long (k153_13 + (Int64.ofInt 0))), none, some (.long (Int64.ofInt (k153_15 + 1))), none, some (pw_i k153_17), some (pw_i k171_18), some (.long k171_19), none, some (.long ((k171_19 * (Int64.ofInt (pw_gm h15 125 29))) - ((((pw_gl h15 125 26) + (pw_gl h15 125 28)) - k171_19) * (Int64.ofInt (pw_gm h15 125 27))))), none]) rfl rfl rfl rfl ?_
                                          refine pw_inc E (pc' := 285) (ls' := [some (.ref 141), some (pw_i b), some (pw_i e), some (pw_i wt), some (.long (pw_gl h15 125 24)), none, some (.long (Int64.ofInt (pw_gm h15 125 27))), none, some (.long (Int64.ofInt (pw_gm h15 125 29))), none, some (.long ((pw_gl h15 125 26) + (pw_gl h15 125 28))), none, some (pw_i k102_12), some (.long (k153_13 + (Int64.ofInt 0))), none, some (.long (Int64.ofInt (k153_15 + 1))), none, some (pw_i (k153_17 + 1)), some (pw_i k171_18), some (.long k171_19), none, some (.long ((k171_19 * (Int64.ofInt (pw_gm h15 125 29))) - ((((pw_gl h15 125 26) + (pw_gl h15 125 28)) - k171_19) * (Int64.ofInt (pw_gm h15 125 27))))), none]) rfl rfl rfl rfl ?_
                                          refine pw_goto E (pc' := 153) rfl (by decide) ?_
                                          exact ih153 _ (by omega) (k153_13 + (Int64.ofInt 0)) (k153_15 + 1) (k153_17 + 1) (some (pw_i k171_18)) (some (.long k171_19)) (some (.long ((k171_19 * (Int64.ofInt (pw_gm h15 125 29))) - ((((pw_gl h15 125 26) + (pw_gl h15 125 28)) - k171_19) * (Int64.ofInt (pw_gm h15 125 27))))))  (by omega) (by omega) (by omega) (by omega) (by omega) (by omega) rfl
                                        · intro hc49
                                          change ¬ (c47 < (0 : Int)) at hc49
                                          refine pw_ld E (pc' := 275) (st' := [.long (Int64.ofInt 1), .long k153_13]) rfl (fun _ => rfl) ?_
                                          refine pw_goto E (pc' := 279) rfl (by decide) ?_
                                          refine pw_ld E (pc' := 280) (st' := [.long (k153_13 + (Int64.ofInt 1))]) rfl (fun _ => rfl) ?_
                                          refine pw_lst E (pc' := 282) (ls' := [some (.ref 141), some (pw_i b), some (pw_i e), some (pw_i wt), some (.long (pw_gl h15 125 24)), none, some (.long (Int64.ofInt (pw_gm h15 125 27))), none, some (.long (Int64.ofInt (pw_gm h15 125 29))), none, some (.long ((pw_gl h15 125 26) + (pw_gl h15 125 28))), none, some (pw_i k102_12), some (.long (k153_13 + (Int64.ofInt 1))), none, some (.long (Int64.ofInt (k153_15 + 1))), none, some (pw_i k153_17), some (pw_i k171_18), some (.long k171_19), none, some (.long ((k171_19 * (Int64.ofInt (pw_gm h15 125 29))) - ((((pw_gl h15 125 26) + (pw_gl h15 125 28)) - k171_19) * (Int64.ofInt (pw_gm h15 125 27))))), none]) rfl rfl rfl rfl ?_
                                          refine pw_inc E (pc' := 285) (ls' := [some (.ref 141), some (pw_i b), some (pw_i e), some (pw_i wt), some (.long (pw_gl h15 125 24)), none, some (.long (Int64.ofInt (pw_gm h15 125 27))), none, some (.long (Int64.ofInt (pw_gm h15 125 29))), none, some (.long ((pw_gl h15 125 26) + (pw_gl h15 125 28))), none, some (pw_i k102_12), some (.long (k153_13 + (Int64.ofInt 1))), none, some (.long (Int64.ofInt (k153_15 + 1))), none, some (pw_i (k153_17 + 1)), some (pw_i k171_18), some (.long k171_19), none, some (.long ((k171_19 * (Int64.ofInt (pw_gm h15 125 29))) - ((((pw_gl h15 125 26) + (pw_gl h15 125 28)) - k171_19) * (Int64.ofInt (pw_gm h15 125 27))))), none]) rfl rfl rfl rfl ?_
                                          refine pw_goto E (pc' := 153) rfl (by decide) ?_
                                          exact ih153 _ (by omega) (k153_13 + (Int64.ofInt 1)) (k153_15 + 1) (k153_17 + 1) (some (pw_i k171_18)) (some (.long k171_19)) (some (.long ((k171_19 * (Int64.ofInt (pw_gm h15 125 29))) - ((((pw_gl h15 125 26) + (pw_gl h15 125 28)) - k171_19) * (Int64.ofInt (pw_gm h15 125 27))))))  (by omega) (by omega) (by omega) (by omega) (by omega) (by omega) rfl
                                  · intro hc50
                                    change ¬ (k102_12 ≤ k171_21) at hc50
                                    refine pw_ld E (pc' := 180) (st' := [pw_i k171_18]) rfl (fun _ => rfl) ?_
                                    refine pw_ld E (pc' := 182) (st' := [pw_i k153_17, pw_i k171_18]) rfl (fun _ => rfl) ?_
                                    refine pw_ld E (pc' := 184) (st' := [pw_i k171_21, pw_i k153_17, pw_i k171_18]) rfl (fun _ => rfl) ?_
                                    refine pw_iiE (f := fun x y => x >>> (y &&& 31)) (c := pw_sr k153_17 k171_21) E (pc' := 185) rfl (fun _ => rfl) rfl ?_
                                    have hp51 := pw_sr_r k153_17 k171_21
                                    refine pw_ld E (pc' := 186) (st' := [pw_i 1, pw_i (pw_sr k153_17 k171_21), pw_i k171_18]) rfl (fun _ => rfl) ?_
                                    refine pw_iiE (f := fun x y => x &&& y) (c := pw_an (pw_sr k153_17 k171_21) 1) E (pc' := 187) rfl (fun _ => rfl) rfl ?_
                                    have hp52 := pw_an_r (pw_sr k153_17 k171_21)
                                    refine pw_add E (pc' := 188) rfl rfl ?_
                                    refine pw_ist E (pc' := 190) (ls' := [some (.ref 141), some (pw_i b), some (pw_i e), some (pw_i wt), some (.long (pw_gl h15 125 24)), none, some (.long (Int64.ofInt (pw_gm h15 125 27))), none, some (.long (Int64.ofInt (pw_gm h15 125 29))), none, some (.long ((pw_gl h15 125 26) + (pw_gl h15 125 28))), none, some (pw_i k102_12), some (.long k153_13), none, some (.long (Int64.ofInt k153_15)), none, some (pw_i k153_17), some (pw_i (k171_18 + (pw_an (pw_sr k153_17 k171_21) 1))), some (.long k171_19), none, some (pw_i k171_21), none]) rfl rfl rfl rfl ?_
                                    refine pw_ld E (pc' := 192) (st' := [.long k171_19]) rfl (fun _ => rfl) ?_
                                    refine pw_ld E (pc' := 194) (st' := [pw_i k153_17, .long k171_19]) rfl (fun _ => rfl) ?_
                                    refine pw_ld E (pc' := 196) (st' := [pw_i k171_21, pw_i k153_17, .long k171_19]) rfl (fun _ => rfl) ?_
                                    refine pw_iiE (f := fun x y => x >>> (y &&& 31)) (c := pw_sr k153_17 k171_21) E (pc' := 197) rfl (fun _ => rfl) rfl ?_
                                    have hp53 := pw_sr_r k153_17 k171_21
                                    refine pw_ld E (pc' := 198) (st' := [pw_i 1, pw_i (pw_sr k153_17 k171_21), .long k171_19]) rfl (fun _ => rfl) ?_
                                    refine pw_iiE (f := fun x y => x &&& y) (c := pw_an (pw_sr k153_17 k171_21) 1) E (pc' := 199) rfl (fun _ => rfl) rfl ?_
                                    have hp54 := pw_an_r (pw_sr k153_17 k171_21)
                                    refine pw_ld E (pc' := 200) (st' := [pw_i 1, pw_i (pw_an (pw_sr k153_17 k171_21) 1), .long k171_19]) rfl (fun _ => rfl) ?_
                                    refine pw_if2 E (pc' := 214) rfl (by decide) (by omega) (by omega) (by decide) (by decide) ?_ ?_
                                    · intro hc55
                                      change pw_an (pw_sr k153_17 k171_21) 1 ≠ (1 : Int) at hc55
                                      refine pw_ld E (pc' := 215) (st' := [.long (Int64.ofInt 0), .long k171_19]) rfl (fun _ => rfl) ?_
                                      refine pw_ld E (pc' := 216) (st' := [.long (k171_19 + (Int64.ofInt 0))]) rfl (fun _ => rfl) ?_
                                      refine pw_lst E (pc' := 218) (ls' := [some (.ref 141), some (pw_i b), some (pw_i e), some (pw_i wt), some (.long (pw_gl h15 125 24)), none, some (.long (Int64.ofInt (pw_gm h15 125 27))), none, some (.long (Int64.ofInt (pw_gm h15 125 29))), none, some (.long ((pw_gl h15 125 26) + (pw_gl h15 125 28))), none, some (pw_i k102_12), some (.long k153_13), none, some (.long (Int64.ofInt k153_15)), none, some (pw_i k153_17), some (pw_i (k171_18 + (pw_an (pw_sr k153_17 k171_21) 1))), some (.long (k171_19 + (Int64.ofInt 0))), none, some (pw_i k171_21), none]) rfl rfl rfl rfl ?_
                                      refine pw_inc E (pc' := 221) (ls' := [some (.ref 141), some (pw_i b), some (pw_i e), some (pw_i wt), some (.long (pw_gl h15 125 24)), none, some (.long (Int64.ofInt (pw_gm h15 125 27))), none, some (.long (Int64.ofInt (pw_gm h15 125 29))), none, some (.long ((pw_gl h15 125 26) + (pw_gl h15 125 28))), none, some (pw_i k102_12), some (.long k153_13), none, some (.long (Int64.ofInt k153_15)), none, some (pw_i k153_17), some (pw_i (k171_18 + (pw_an (pw_sr k153_17 k171_21) 1))), some (.long (k171_19 + (Int64.ofInt 0))), none, some (pw_i (k171_21 + 1)), none]) rfl rfl rfl rfl ?_
                                      refine pw_goto E (pc' := 171) rfl (by decide) ?_
                                      exact ih171 _ (by omega) (k171_18 + (pw_an (pw_sr k153_17 k171_21) 1)) (k171_19 + (Int64.ofInt 0)) (k171_21 + 1)  (by omega) (by omega) (by omega) (by omega) (by rw [pw_btS (by omega)]; omega) (by omega) (by omega) rfl
                                    · intro hc56
                                      change ¬ (pw_an (pw_sr k153_17 k171_21) 1 ≠ (1 : Int)) at hc56
                                      refine pw_ld E (pc' := 204) (st' := [.ref 141, .long k171_19]) rfl (fun _ => rfl) ?_
                                      refine pw_getR (b := 160) I102 E (c := 125) (k := 30) (pc' := 207) rfl rfl rfl rfl rfl rfl rfl ?_
                                      refine pw_ld E (pc' := 209) (st' := [pw_i k171_21, .ref 160, .long k171_19]) rfl (fun _ => rfl) ?_
                                      refine pw_ald2 I102 E (c := 144) (pc' := 210) rfl rfl rfl (by decide) rfl (by decide) (by omega) (by omega) rfl (fun hf57a hf57b => ?_)
                                      refine pw_i2l E (pc' := 211) rfl rfl (by omega) (by omega) ?_
                                      refine pw_goto E (pc' := 215) rfl (by decide) ?_
                                      refine pw_ld E (pc' := 216) (st' := [.long (k171_19 + (Int64.ofInt (pw_g gh102 144 (k171_21.toNat))))]) rfl (fun _ => rfl) ?_
                                      refine pw_lst E (pc' := 218) (ls' := [some (.ref 141), some (pw_i b), some (pw_i e), some (pw_i wt), some (.long (pw_gl h15 125 24)), none, some (.long (Int64.ofInt (pw_gm h15 125 27))), none, some (.long (Int64.ofInt (pw_gm h15 125 29))), none, some (.long ((pw_gl h15 125 26) + (pw_gl h15 125 28))), none, some (pw_i k102_12), some (.long k153_13), none, some (.long (Int64.ofInt k153_15)), none, some (pw_i k153_17), some (pw_i (k171_18 + (pw_an (pw_sr k153_17 k171_21) 1))), some (.long (k171_19 + (Int64.ofInt (pw_g gh102 144 (k171_21.toNat))))), none, some (pw_i k171_21), none]) rfl rfl rfl rfl ?_
                                      refine pw_inc E (pc' := 221) (ls' := [some (.ref 141), some (pw_i b), some (pw_i e), some (pw_i wt), some (.long (pw_gl h15 125 24)), none, some (.long (Int64.ofInt (pw_gm h15 125 27))), none, some (.long (Int64.ofInt (pw_gm h15 125 29))), none, some (.long ((pw_gl h15 125 26) + (pw_gl h15 125 28))), none, some (pw_i k102_12), some (.long k153_13), none, some (.long (Int64.ofInt k153_15)), none, some (pw_i k153_17), some (pw_i (k171_18 + (pw_an (pw_sr k153_17 k171_21) 1))), some (.long (k171_19 + (Int64.ofInt (pw_g gh102 144 (k171_21.toNat))))), none, some (pw_i (k171_21 + 1)), none]) rfl rfl rfl rfl ?_
                                      refine pw_goto E (pc' := 171) rfl (by decide) ?_
                                      exact ih171 _ (by omega) (k171_18 + (pw_an (pw_sr k153_17 k171_21) 1)) (k171_19 + (Int64.ofInt (pw_g gh102 144 (k171_21.toNat)))) (k171_21 + 1)  (by omega) (by omega) (by omega) (by omega) (by rw [pw_btS (by omega)]; omega) (by omega) (by omega) rfl
                              exact L171 _ (0) (Int64.ofInt 0) (0)  (by omega) (by omega) (by omega) (by omega) rfl (by omega) (by omega) rfl
                        exact L153 _ (Int64.ofInt 0) (0) (0) (none) (none) (none)  (by omega) (by omega) (by omega) (by omega) (by omega) (by omega) rfl
                      · intro hc58
                        change ¬ ((24 : Int) ≤ k102_13) at hc58
                        have hcE := pw_cdE I E102 rfl k102_13 b e
                        have hcS := pw_cS (h := h) (b := b) (e := e) (k := k102_13) (by omega)
                        have hcR := pw_cd_r h k102_13 b e
                        refine pw_ld E (pc' := 110) (st' := [.ref 141]) rfl (fun _ => rfl) ?_
                        refine pw_ld E (pc' := 112) (st' := [pw_i k102_13, .ref 141]) rfl (fun _ => rfl) ?_
                        refine pw_ld E (pc' := 113) (st' := [pw_i b, pw_i k102_13, .ref 141]) rfl (fun _ => rfl) ?_
                        refine pw_ld E (pc' := 114) (st' := [pw_i e, pw_i b, pw_i k102_13, .ref 141]) rfl (fun _ => rfl) ?_
                        obtain ⟨f59l, f59h, -⟩ := pw_obj (c := 125) I102 rfl
                        refine pw_call (m' := 214) (As := [.ref 141, pw_i k102_13, pw_i b, pw_i e]) (rest := []) (ls'' := [some (.ref 141), some (pw_i k102_13), some (pw_i b), some (pw_i e)]) (Nat.le_trans (by decide) hd) E rfl (fun _ => pw_iV rfl rfl rfl rfl (pw_cellI f59h rfl)) (rfl : pm_ent 214 = some (4, 4, 12, 1, pmc_214)) rfl rfl (cm_214_r (pw_dp hd (by decide)) I102 (k102_13) (by omega) (by omega) (b) (by omega) (by omega) (e) (by omega) (by omega)) ?_
                        rintro u61 v60 ⟨rfl, x62, rfl, hx62a, hx62b, hx62r⟩
                        refine ⟨_, rfl, ?_⟩
                        show pw X d gh102 233 117 [some (.ref 141), some (pw_i b), some (pw_i e), some (pw_i wt), some (.long (pw_gl h15 125 24)), none, some (.long (Int64.ofInt (pw_gm h15 125 27))), none, some (.long (Int64.ofInt (pw_gm h15 125 29))), none, some (.long ((pw_gl h15 125 26) + (pw_gl h15 125 28))), none, some (pw_i k102_12), some (pw_i k102_13), none, none, none, none, none, none, none, none, none] [pw_i x62] _
                        change x62 = pw_cd gh102 k102_13 b e at hx62r
                        rcases (by omega : x62 = 1 ∨ x62 = 0) with hb63 | hb63
                        · skip
                          refine pw_if E (pc' := 138) rfl (by decide) (by omega) (by omega) ?_ ?_
                          · intro hc64
                            change x62 = (0 : Int) at hc64
                            exfalso; omega
                          · intro hc65
                            change ¬ (x62 = (0 : Int)) at hc65
                            refine pw_ld E (pc' := 121) (st' := [.ref 141]) rfl (fun _ => rfl) ?_
                            refine pw_getR (b := 160) I102 E (c := 125) (k := 30) (pc' := 124) rfl rfl rfl rfl rfl rfl rfl ?_
                            refine pw_ld E (pc' := 126) (st' := [pw_i k102_12, .ref 160]) rfl (fun _ => rfl) ?_
                            refine pw_ld E (pc' := 127) (st' := [.ref 141, pw_i k102_12, .ref 160]) rfl (fun _ => rfl) ?_
                            refine pw_ld E (pc' := 129) (st' := [pw_i k102_13, .ref 141, pw_i k102_12, .ref 160]) rfl (fun _ => rfl) ?_
                            refine pw_ld E (pc' := 130) (st' := [pw_i b, pw_i k102_13, .ref 141, pw_i k102_12, .ref 160]) rfl (fun _ => rfl) ?_
                            refine pw_ld E (pc' := 131) (st' := [pw_i e, pw_i b, pw_i k102_13, .ref 141, pw_i k102_12, .ref 160]) rfl (fun _ => rfl) ?_
                            obtain ⟨f66l, f66h, -⟩ := pw_obj (c := 125) I102 rfl
                            refine pw_call (m' := 215) (As := [.ref 141, pw_i k102_13, pw_i b, pw_i e]) (rest := [pw_i k102_12, .ref 160]) (ls'' := [some (.ref 141), some (pw_i k102_13), some (pw_i b), some (pw_i e)]) (Nat.le_trans (by decide) hd) E rfl (fun _ => pw_iV rfl rfl rfl rfl (pw_cellI f66h rfl)) (rfl : pm_ent 215 = some (4, 4, 12, 0, pmc_215)) rfl rfl (cm_215 (pw_dp hd (by decide)) I102 (k102_13) (by omega) (by omega) (b) (by omega) (by omega) (e) (by omega) (by omega)) ?_
                            rintro u68 v67 ⟨rfl, x69, rfl, hx69a, hx69b⟩
                            refine ⟨_, rfl, ?_⟩
                            show pw X d gh102 233 134 [some (.ref 141), some (pw_i b), some (pw_i e), some (pw_i wt), some (.long (pw_gl h15 125 24)), none, some (.long (Int64.ofInt (pw_gm h15 125 27))), none, some (.long (Int64.ofInt (pw_gm h15 125 29))), none, some (.long ((pw_gl h15 125 26) + (pw_gl h15 125 28))), none, some (pw_i k102_12), some (pw_i k102_13), none, none, none, none, none, none, none, none, none] [pw_i x69, pw_i k102_12, .ref 160] _
                            refine pw_ast0 I102 E (c := 144) (pc' := 135) rfl rfl rfl (by decide) rfl (by decide) (by omega) (by omega) rfl (by omega) (by omega) (by omega) (by omega) rfl ?_
                            intro h70I h70E
                            generalize h70w : pw_w gh102 144 (k102_12.toNat) (pw_i x69) = h70 at h70I h70E ⊢
                            have h70F := E102.tr (h70E.wk (W' := [125, 144]) (by first | rfl | simp))
                            refine pw_inc E (pc' := 138) (ls' := [some (.ref 141), some (pw_i b), some (pw_i e), some (pw_i wt), some (.long (pw_gl h15 125 24)), none, some (.long (Int64.ofInt (pw_gm h15 125 27))), none, some (.long (Int64.ofInt (pw_gm h15 125 29))), none, some (.long ((pw_gl h15 125 26) + (pw_gl h15 125 28))), none, some (pw_i (k102_12 + 1)), some (pw_i k102_13), none, none, none, none, none, none, none, none, none]) rfl rfl rfl rfl ?_
                            refine pw_inc E (pc' := 141) (ls' := [some (.ref 141), some (pw_i b), some (pw_i e), some (pw_i wt), some (.long (pw_gl h15 125 24)), none, some (.long (Int64.ofInt (pw_gm h15 125 27))), none, some (.long (Int64.ofInt (pw_gm h15 125 29))), none, some (.long ((pw_gl h15 125 26) + (pw_gl h15 125 28))), none, some (pw_i (k102_12 + 1)), some (pw_i (k102_13 + 1)), none, none, none, none, none, none, none, none, none]) rfl rfl rfl rfl ?_
                            refine pw_goto E (pc' := 102) rfl (by decide) ?_
                            exact ih102 _ (by omega) (k102_12 + 1) (k102_13 + 1) h70 h70I h70F (by omega) (by omega) (by omega) (by omega) (by omega) (by omega) rfl
                        · skip
                          refine pw_if E (pc' := 138) rfl (by decide) (by omega) (by omega) ?_ ?_
                          · intro hc72
                            change x62 = (0 : Int) at hc72
                            refine pw_inc E (pc' := 141) (ls' := [some (.ref 141), some (pw_i b), some (pw_i e), some (pw_i wt), some (.long (pw_gl h15 125 24)), none, some (.long (Int64.ofInt (pw_gm h15 125 27))), none, some (.long (Int64.ofInt (pw_gm h15 125 29))), none, some (.long ((pw_gl h15 125 26) + (pw_gl h15 125 28))), none, some (pw_i k102_12), some (pw_i (k102_13 + 1)), none, none, none, none, none, none, none, none, none]) rfl rfl rfl rfl ?_
                            refine pw_goto E (pc' := 102) rfl (by decide) ?_
                            exact ih102 _ (by omega) (k102_12) (k102_13 + 1) gh102 I102 E102 (by omega) (by omega) (by omega) (by omega) (by omega) (by omega) rfl
                          · intro hc73
                            change ¬ (x62 = (0 : Int)) at hc73
                            exfalso; omega
                  exact L102 _ (0) (0) h15 h15I h15F (by omega) (by omega) (by omega) (by omega) (by show (0 : Int) = 0 + 0; omega) (by omega) rfl
                · intro hc74
                  change ¬ ((0 : Int) ≤ c25) at hc74
                  refine pw_ld E (pc' := 60) (st' := [.ref 141]) rfl (fun _ => rfl) ?_
                  refine pw_getL h15I E (c := 125) (k := 24) (pc' := 63) rfl rfl rfl rfl rfl rfl ?_
                  refine pw_ld E (pc' := 64) (st' := [.long (-(pw_gl h15 125 24))]) rfl (fun _ => rfl) ?_
                  refine pw_goto E (pc' := 71) rfl (by decide) ?_
                  refine pw_lst E (pc' := 73) (ls' := [some (.ref 141), some (pw_i b), some (pw_i e), some (pw_i wt), some (.long (-(pw_gl h15 125 24))), none, none, none, none, none, none, none, none, none, none, none, none, none, none, none, none, none, none]) rfl rfl rfl rfl ?_
                  refine pw_ld E (pc' := 74) (st' := [.ref 141]) rfl (fun _ => rfl) ?_
                  refine pw_getM h15I E (c := 125) (k := 27) (pc' := 77) rfl rfl rfl rfl rfl rfl (fun hf75a hf75b => ?_)
                  refine pw_lst E (pc' := 79) (ls' := [some (.ref 141), some (pw_i b), some (pw_i e), some (pw_i wt), some (.long (-(pw_gl h15 125 24))), none, some (.long (Int64.ofInt (pw_gm h15 125 27))), none, none, none, none, none, none, none, none, none, none, none, none, none, none, none, none]) rfl rfl rfl rfl ?_
                  refine pw_ld E (pc' := 80) (st' := [.ref 141]) rfl (fun _ => rfl) ?_
                  refine pw_getM h15I E (c := 125) (k := 29) (pc' := 83) rfl rfl rfl rfl rfl rfl (fun hf76a hf76b => ?_)
                  refine pw_lst E (pc' := 85) (ls' := [some (.ref 141), some (pw_i b), some (pw_i e), some (pw_i wt), some (.long (-(pw_gl h15 125 24))), none, some (.long (Int64.ofInt (pw_gm h15 125 27))), none, some (.long (Int64.ofInt (pw_gm h15 125 29))), none, none, none, none, none, none, none, none, none, none, none, none, none, none]) rfl rfl rfl rfl ?_
                  refine pw_ld E (pc' := 86) (st' := [.ref 141]) rfl (fun _ => rfl) ?_
                  refine pw_getL h15I E (c := 125) (k := 26) (pc' := 89) rfl rfl rfl rfl rfl rfl ?_
                  refine pw_ld E (pc' := 90) (st' := [.ref 141, .long (pw_gl h15 125 26)]) rfl (fun _ => rfl) ?_
                  refine pw_getL h15I E (c := 125) (k := 28) (pc' := 93) rfl rfl rfl rfl rfl rfl ?_
                  refine pw_ld E (pc' := 94) (st' := [.long ((pw_gl h15 125 26) + (pw_gl h15 125 28))]) rfl (fun _ => rfl) ?_
                  refine pw_lst E (pc' := 96) (ls' := [some (.ref 141), some (pw_i b), some (pw_i e), some (pw_i wt), some (.long (-(pw_gl h15 125 24))), none, some (.long (Int64.ofInt (pw_gm h15 125 27))), none, some (.long (Int64.ofInt (pw_gm h15 125 29))), none, some (.long ((pw_gl h15 125 26) + (pw_gl h15 125 28))), none, none, none, none, none, none, none, none, none, none, none, none]) rfl rfl rfl rfl ?_
                  refine pw_ld E (pc' := 97) (st' := [pw_i 0]) rfl (fun _ => rfl) ?_
                  refine pw_ist E (pc' := 99) (ls' := [some (.ref 141), some (pw_i b), some (pw_i e), some (pw_i wt), some (.long (-(pw_gl h15 125 24))), none, some (.long (Int64.ofInt (pw_gm h15 125 27))), none, some (.long (Int64.ofInt (pw_gm h15 125 29))), none, some (.long ((pw_gl h15 125 26) + (pw_gl h15 125 28))), none, some (pw_i 0), none, none, none, none, none, none, none, none, none, none]) rfl rfl rfl rfl ?_
                  refine pw_ld E (pc' := 100) (st' := [pw_i 0]) rfl (fun _ => rfl) ?_
                  refine pw_ist E (pc' := 102) (ls' := [some (.ref 141), some (pw_i b), some (pw_i e), some (pw_i wt), some (.long (-(pw_gl h15 125 24))), none, some (.long (Int64.ofInt (pw_gm h15 125 27))), none, some (.long (Int64.ofInt (pw_gm h15 125 29))), none, some (.long ((pw_gl h15 125 26) + (pw_gl h15 125 28))), none, some (pw_i 0), some (pw_i 0), none, none, none, none, none, none, none, none, none]) rfl rfl rfl rfl ?_
                  have L102 : ∀ (n102 : Nat) (k102_12 : Int) (k102_13 : Int) (gh102 : pm_H), pw_I gh102 → pw_E [125, 144] h gh102 → 0 ≤ k102_12 → k102_12 ≤ 24 → 0 ≤ k102_13 → k102_13 ≤ 24 → k102_12 = pw_c0 h b e (k102_13).toNat + pw_c1 h b e (k102_13).toNat → k102_12 ≤ k102_13 → (24 - k102_13).toNat = n102 → pw X d gh102 233 102 [some (.ref 141), some (pw_i b), some (pw_i e), some (pw_i wt), some (.long (-(pw_gl h15 125 24))), none, some (.long (Int64.ofInt (pw_gm h15 125 27))), none, some (.long (Int64.ofInt (pw_gm h15 125 29))), none, some (.long ((pw_gl h15 125 26) + (pw_gl h15 125 28))), none, some (pw_i k102_12), some (pw_i k102_13), none, none, none, none, none, none, none, none, none] [] (fun h' v => pw_I h' ∧ pw_E [125, 144] h h' ∧ ∃ w : Int64, v = .inl (some (.long w))) := by
                    intro n102
                    induction n102 using Nat.strongRecOn with
                    | ind n102 ih102 =>
                      intro k102_12 k102_13 gh102 I102 E102 k102_12a k102_12b k102_13a k102_13b hx102_0 hx102_1 hm102
                      refine pw_ld E (pc' := 104) (st' := [pw_i k102_13]) rfl (fun _ => rfl) ?_
                      refine pw_bip E (pc' := 106) rfl rfl (by decide) ?_
                      refine pw_if2 E (pc' := 144) rfl (by decide) (by omega) (by omega) (by decide) (by decide) ?_ ?_
                      · intro hc77
                        change (24 : Int) ≤ k102_13 at hc77
                        have h24 : (k102_13).toNat = 24 := by omega
                        rw [h24] at hx102_0
                        refine pw_ld E (pc' := 145) (st' := [.long (Int64.ofInt 0)]) rfl (fun _ => rfl) ?_
                        refine pw_lst E (pc' := 147) (ls' := [some (.ref 141), some (pw_i b), some (pw_i e), some (pw_i wt), some (.long (-(pw_gl h15 125 24))), none, some (.long (Int64.ofInt (pw_gm h15 125 27))), none, some (.long (Int64.ofInt (pw_gm h15 125 29))), none, some (.long ((pw_gl h15 125 26) + (pw_gl h15 125 28))), none, some (pw_i k102_12), some (.long (Int64.ofInt 0)), none, none, none, none, none, none, none, none, none]) rfl rfl rfl rfl ?_
                        refine pw_ld E (pc' := 148) (st' := [.long (Int64.ofInt 0)]) rfl (fun _ => rfl) ?_
                        refine pw_lst E (pc' := 150) (ls' := [some (.ref 141), some (pw_i b), some (pw_i e), some (pw_i wt), some (.long (-(pw_gl h15 125 24))), none, some (.long (Int64.ofInt (pw_gm h15 125 27))), none, some (.long (Int64.ofInt (pw_gm h15 125 29))), none, some (.long ((pw_gl h15 125 26) + (pw_gl h15 125 28))), none, some (pw_i k102_12), some (.long (Int64.ofInt 0)), none, some (.long (Int64.ofInt 0)), none, none, none, none, none, none, none]) rfl rfl rfl rfl ?_
                        have hpr := pw_p2_r (a := pw_gm h15 125 27) (by omega) (by omega)
                        have hpl := pw_p2_le (a := pw_gm h15 125 27) (b := k102_12) (by omega)
                        refine pw_ld E (pc' := 151) (st' := [pw_i 0]) rfl (fun _ => rfl) ?_
                        refine pw_ist E (pc' := 153) (ls' := [some (.ref 141), some (pw_i b), some (pw_i e), some (pw_i wt), some (.long (-(pw_gl h15 125 24))), none, some (.long (Int64.ofInt (pw_gm h15 125 27))), none, some (.long (Int64.ofInt (pw_gm h15 125 29))), none, some (.long ((pw_gl h15 125 26) + (pw_gl h15 125 28))), none, some (pw_i k102_12), some (.long (Int64.ofInt 0)), none, some (.long (Int64.ofInt 0)), none, some (pw_i 0), none, none, none, none, none]) rfl rfl rfl rfl ?_
                        have L153 : ∀ (n153 : Nat) (k153_13 : Int64) (k153_15 : Int) (k153_17 : Int) (k153_18 : Option Value) (k153_19 : Option Value) (k153_21 : Option Value), 0 ≤ k153_15 → k153_15 ≤ 16384 → 0 ≤ k153_17 → k153_17 ≤ 16384 → k153_15 ≤ k153_17 → (pw_p2 (pw_gm h15 125 27) - 1 < k153_17 → 1 ≤ k153_15) → (16384 - k153_17).toNat = n153 → pw X d gh102 233 153 [some (.ref 141), some (pw_i b), some (pw_i e), some (pw_i wt), some (.long (-(pw_gl h15 125 24))), none, some (.long (Int64.ofInt (pw_gm h15 125 27))), none, some (.long (Int64.ofInt (pw_gm h15 125 29))), none, some (.long ((pw_gl h15 125 26) + (pw_gl h15 125 28))), none, some (pw_i k102_12), some (.long k153_13), none, some (.long (Int64.ofInt k153_15)), none, some (pw_i k153_17), k153_18, k153_19, none, k153_21, none] [] (fun h' v => pw_I h' ∧ pw_E [125, 144] h h' ∧ ∃ w : Int64, v = .inl (some (.long w))) := by
                          intro n153
                          induction n153 using Nat.strongRecOn with
                          | ind n153 ih153 =>
                            intro k153_13 k153_15 k153_17 k153_18 k153_19 k153_21 k153_15a k153_15b k153_17a k153_17b hx153_0 hx153_1 hm153
                            refine pw_ld E (pc' := 155) (st' := [pw_i k153_17]) rfl (fun _ => rfl) ?_
                            refine pw_ld E (pc' := 156) (st' := [pw_i 1, pw_i k153_17]) rfl (fun _ => rfl) ?_
                            refine pw_ld E (pc' := 158) (st' := [pw_i k102_12, pw_i 1, pw_i k153_17]) rfl (fun _ => rfl) ?_
                            refine pw_shlE E (pc' := 159) rfl rfl (by omega) (by omega) ?_
                            have hp78 := pw_p2_r (a := k102_12) (by omega) (by omega)
                            refine pw_if2 E (pc' := 288) rfl (by decide) (by omega) (by omega) (by omega) (by omega) ?_ ?_
                            · intro hc79
                              change pw_p2 k102_12 ≤ k153_17 at hc79
                              refine pw_ld E (pc' := 289) (st' := [.ref 141]) rfl (fun _ => rfl) ?_
                              refine pw_ld E (pc' := 291) (st' := [.long k153_13, .ref 141]) rfl (fun _ => rfl) ?_
                              refine pw_putL I102 E (c := 125) (k := 24) (pc' := 294) rfl rfl rfl rfl rfl rfl ?_
                              intro h80I h80E
                              generalize h80w : pw_w gh102 125 24 (.long k153_13) = h80 at h80I h80E ⊢
                              have h80F := E102.tr (h80E.wk (W' := [125, 144]) (by first | rfl | simp))
                              refine pw_ld E (pc' := 295) (st' := [.ref 141]) rfl (fun _ => rfl) ?_
                              refine pw_ld E (pc' := 297) (st' := [.long (Int64.ofInt k153_15), .ref 141]) rfl (fun _ => rfl) ?_
                              refine pw_putM h80I E (c := 125) (k := 25) (pc' := 300) rfl rfl rfl rfl (by omega) (by omega) (by omega) (by omega) rfl rfl ?_
                              intro h81I h81E
                              generalize h81w : pw_w h80 125 25 (.long (Int64.ofInt k153_15)) = h81 at h81I h81E ⊢
                              have h81F := h80F.tr (h81E.wk (W' := [125, 144]) (by first | rfl | simp))
                              refine pw_ld E (pc' := 301) (st' := [.ref 141]) rfl (fun _ => rfl) ?_
                              refine pw_ld E (pc' := 302) (st' := [pw_i wt, .ref 141]) rfl (fun _ => rfl) ?_
                              have he82 : pw_gm h81 125 25 = k153_15 := by rw [← h81w]; exact pw_gm_eq (c := 125) (k := 25) h80I rfl rfl (by omega) (by omega)
                              obtain ⟨f83l, f83h, -⟩ := pw_obj (c := 125) h81I rfl
                              refine pw_call (m' := 222) (As := [.ref 141, pw_i wt]) (rest := []) (ls'' := [some (.ref 141), some (pw_i wt), none, none]) (Nat.le_trans (by decide) hd) E rfl (fun _ => pw_iV rfl rfl rfl rfl (pw_cellI f83h rfl)) (rfl : pm_ent 222 = some (2, 4, 12, 2, pmc_222)) rfl rfl (cm_222 (pw_dp hd (by decide)) h81I (wt) (by omega) (by omega) (by omega)) ?_
                              rintro u85 v84 ⟨rfl, w86, rfl⟩
                              refine ⟨_, rfl, ?_⟩
                              show pw X d h81 233 305 [some (.ref 141), some (pw_i b), some (pw_i e), some (pw_i wt), some (.long (-(pw_gl h15 125 24))), none, some (.long (Int64.ofInt (pw_gm h15 125 27))), none, some (.long (Int64.ofInt (pw_gm h15 125 29))), none, some (.long ((pw_gl h15 125 26) + (pw_gl h15 125 28))), none, some (pw_i k102_12), some (.long k153_13), none, some (.long (Int64.ofInt k153_15)), none, some (pw_i k153_17), k153_18, k153_19, none, k153_21, none] [.long w86] _
                              refine pw_lret E rfl ?_
                              exact ⟨h81I, h81F, ⟨_, rfl⟩⟩
                            · intro hc87
                              change ¬ (pw_p2 k102_12 ≤ k153_17) at hc87
                              refine pw_ld E (pc' := 163) (st' := [pw_i 0]) rfl (fun _ => rfl) ?_
                              refine pw_ist E (pc' := 165) (ls' := [some (.ref 141), some (pw_i b), some (pw_i e), some (pw_i wt), some (.long (-(pw_gl h15 125 24))), none, some (.long (Int64.ofInt (pw_gm h15 125 27))), none, some (.long (Int64.ofInt (pw_gm h15 125 29))), none, some (.long ((pw_gl h15 125 26) + (pw_gl h15 125 28))), none, some (pw_i k102_12), some (.long k153_13), none, some (.long (Int64.ofInt k153_15)), none, some (pw_i k153_17), some (pw_i 0), k153_19, none, k153_21, none]) rfl rfl rfl rfl ?_
                              refine pw_ld E (pc' := 166) (st' := [.long (Int64.ofInt 0)]) rfl (fun _ => rfl) ?_
                              refine pw_lst E (pc' := 168) (ls' := [some (.ref 141), some (pw_i b), some (pw_i e), some (pw_i wt), some (.long (-(pw_gl h15 125 24))), none, some (.long (Int64.ofInt (pw_gm h15 125 27))), none, some (.long (Int64.ofInt (pw_gm h15 125 29))), none, some (.long ((pw_gl h15 125 26) + (pw_gl h15 125 28))), none, some (pw_i k102_12), some (.long k153_13), none, some (.long (Int64.ofInt k153_15)), none, some (pw_i k153_17), some (pw_i 0), some (.long (Int64.ofInt 0)), none, k153_21, none]) rfl rfl rfl rfl ?_
                              refine pw_ld E (pc' := 169) (st' := [pw_i 0]) rfl (fun _ => rfl) ?_
                              refine pw_ist E (pc' := 171) (ls' := [some (.ref 141), some (pw_i b), some (pw_i e), some (pw_i wt), some (.long (-(pw_gl h15 125 24))), none, some (.long (Int64.ofInt (pw_gm h15 125 27))), none, some (.long (Int64.ofInt (pw_gm h15 125 29))), none, some (.long ((pw_gl h15 125 26) + (pw_gl h15 125 28))), none, some (pw_i k102_12), some (.long k153_13), none, some (.long (Int64.ofInt k153_15)), none, some (pw_i k153_17), some (pw_i 0), some (.long (Int64.ofInt 0)), none, some (pw_i 0), none]) rfl rfl rfl rfl ?_
                              have L171 : ∀ (n171 : Nat) (k171_18 : Int) (k171_19 : Int64) (k171_21 : Int), 0 ≤ k171_18 → k171_18 ≤ 24 → 0 ≤ k171_21 → k171_21 ≤ 24 → k171_18 = pw_bt k153_17 (k171_21).toNat → k171_18 ≤ k171_21 → k171_21 ≤ k102_12 → (24 - k171_21).toNat = n171 → pw X d gh102 233 171 [some (.ref 141), some (pw_i b), some (pw_i e), some (pw_i wt), some (.long (-(pw_gl h15 125 24))), none, some (.long (Int64.ofInt (pw_gm h15 125 27))), none, some (.long (Int64.ofInt (pw_gm h15 125 29))), none, some (.long ((pw_gl h15 125 26) + (pw_gl h15 125 28))), none, some (pw_i k102_12), some (.long k153_13), none, some (.long (Int64.ofInt k153_15)), none, some (pw_i k153_17), some (pw_i k171_18), some (.long k171_19), none, some (pw_i k171_21), none] [] (fun h' v => pw_I h' ∧ pw_E [125, 144] h h' ∧ ∃ w : Int64, v = .inl (some (.long w))) := by
                                intro n171
                                induction n171 using Nat.strongRecOn with
                                | ind n171 ih171 =>
                                  intro k171_18 k171_19 k171_21 k171_18a k171_18b k171_21a k171_21b hx171_0 hx171_1 hx171_2 hm171
                                  refine pw_ld E (pc' := 173) (st' := [pw_i k171_21]) rfl (fun _ => rfl) ?_
                                  refine pw_ld E (pc' := 175) (st' := [pw_i k102_12, pw_i k171_21]) rfl (fun _ => rfl) ?_
                                  refine pw_if2 E (pc' := 224) rfl (by decide) (by omega) (by omega) (by omega) (by omega) ?_ ?_
                                  · intro hc88
                                    change k102_12 ≤ k171_21 at hc88
                                    have hbt : k153_17 = pw_p2 (pw_gm h15 125 27) - 1 → pw_bt k153_17 (k171_21).toNat = pw_gm h15 125 27 := fun q => by rw [q]; exact pw_bt_p (by omega) (by omega) (by omega)
                                    refine pw_ld E (pc' := 226) (st' := [pw_i k171_18]) rfl (fun _ => rfl) ?_
                                    refine pw_i2l E (pc' := 227) rfl rfl (by omega) (by omega) ?_
                                    refine pw_ld E (pc' := 229) (st' := [.long (Int64.ofInt (pw_gm h15 125 27)), .long (Int64.ofInt k171_18)]) rfl (fun _ => rfl) ?_
                                    refine pw_lcmpC E (pc' := 230) rfl rfl (by omega) (by omega) (by omega) (by omega) (fun c89 hc89 => ?_)
                                    refine pw_if E (pc' := 282) rfl (by decide) (by omega) (by omega) ?_ ?_
                                    · intro hc90
                                      change c89 ≠ (0 : Int) at hc90
                                      refine pw_inc E (pc' := 285) (ls' := [some (.ref 141), some (pw_i b), some (pw_i e), some (pw_i wt), some (.long (-(pw_gl h15 125 24))), none, some (.long (Int64.ofInt (pw_gm h15 125 27))), none, some (.long (Int64.ofInt (pw_gm h15 125 29))), none, some (.long ((pw_gl h15 125 26) + (pw_gl h15 125 28))), none, some (pw_i k102_12), some (.long k153_13), none, some (.long (Int64.ofInt k153_15)), none, some (pw_i (k153_17 + 1)), some (pw_i k171_18), some (.long k171_19), none, some (pw_i k171_21), none]) rfl rfl rfl rfl ?_
                                      refine pw_goto E (pc' := 153) rfl (by decide) ?_
                                      exact ih153 _ (by omega) (k153_13) (k153_15) (k153_17 + 1) (some (pw_i k171_18)) (some (.long k171_19)) (some (pw_i k171_21))  (by omega) (by omega) (by omega) (by omega) (by omega) (by omega) rfl
                                    · intro hc91
                                      change ¬ (c89 ≠ (0 : Int)) at hc91
                                      refine pw_ld E (pc' := 235) (st' := [.long k171_19]) rfl (fun _ => rfl) ?_
                                      refine pw_ld E (pc' := 237) (st' := [.long (Int64.ofInt (pw_gm h15 125 29)), .long k171_19]) rfl (fun _ => rfl) ?_
                                      refine pw_ld E (pc' := 238) (st' := [.long (k171_19 * (Int64.ofInt (pw_gm h15 125 29)))]) rfl (fun _ => rfl) ?_
                                      refine pw_ld E (pc' := 240) (st' := [.long ((pw_gl h15 125 26) + (pw_gl h15 125 28)), .long (k171_19 * (Int64.ofInt (pw_gm h15 125 29)))]) rfl (fun _ => rfl) ?_
                                      refine pw_ld E (pc' := 242) (st' := [.long k171_19, .long ((pw_gl h15 125 26) + (pw_gl h15 125 28)), .long (k171_19 * (Int64.ofInt (pw_gm h15 125 29)))]) rfl (fun _ => rfl) ?_
                                      refine pw_ld E (pc' := 243) (st' := [.long (((pw_gl h15 125 26) + (pw_gl h15 125 28)) - k171_19), .long (k171_19 * (Int64.ofInt (pw_gm h15 125 29)))]) rfl (fun _ => rfl) ?_
                                      refine pw_ld E (pc' := 245) (st' := [.long (Int64.ofInt (pw_gm h15 125 27)), .long (((pw_gl h15 125 26) + (pw_gl h15 125 28)) - k171_19), .long (k171_19 * (Int64.ofInt (pw_gm h15 125 29)))]) rfl (fun _ => rfl) ?_
                                      refine pw_ld E (pc' := 246) (st' := [.long ((((pw_gl h15 125 26) + (pw_gl h15 125 28)) - k171_19) * (Int64.ofInt (pw_gm h15 125 27))), .long (k171_19 * (Int64.ofInt (pw_gm h15 125 29)))]) rfl (fun _ => rfl) ?_
                                      refine pw_ld E (pc' := 247) (st' := [.long ((k171_19 * (Int64.ofInt (pw_gm h15 125 29))) - ((((pw_gl h15 125 26) + (pw_gl h15 125 28)) - k171_19) * (Int64.ofInt (pw_gm h15 125 27))))]) rfl (fun _ => rfl) ?_
                                      refine pw_lst E (pc' := 249) (ls' := [some (.ref 141), some (pw_i b), some (pw_i e), some (pw_i wt), some (.long (-(pw_gl h15 125 24))), none, some (.long (Int64.ofInt (pw_gm h15 125 27))), none, some (.long (Int64.ofInt (pw_gm h15 125 29))), none, some (.long ((pw_gl h15 125 26) + (pw_gl h15 125 28))), none, some (pw_i k102_12), some (.long k153_13), none, some (.long (Int64.ofInt k153_15)), none, some (pw_i k153_17), some (pw_i k171_18), some (.long k171_19), none, some (.long ((k171_19 * (Int64.ofInt (pw_gm h15 125 29))) - ((((pw_gl h15 125 26) + (pw_gl h15 125 28)) - k171_19) * (Int64.ofInt (pw_gm h15 125 27))))), none]) rfl rfl rfl rfl ?_
                                      refine pw_ld E (pc' := 251) (st' := [.long (Int64.ofInt k153_15)]) rfl (fun _ => rfl) ?_
                                      refine pw_ld E (pc' := 252) (st' := [.long (Int64.ofInt 1), .long (Int64.ofInt k153_15)]) rfl (fun _ => rfl) ?_
                                      refine pw_ladd E (pc' := 253) rfl rfl ?_
                                      refine pw_lst E (pc' := 255) (ls' := [some (.ref 141), some (pw_i b), some (pw_i e), some (pw_i wt), some (.long (-(pw_gl h15 125 24))), none, some (.long (Int64.ofInt (pw_gm h15 125 27))), none, some (.long (Int64.ofInt (pw_gm h15 125 29))), none, some (.long ((pw_gl h15 125 26) + (pw_gl h15 125 28))), none, some (pw_i k102_12), some (.long k153_13), none, some (.long (Int64.ofInt (k153_15 + 1))), none, some (pw_i k153_17), some (pw_i k171_18), some (.long k171_19), none, some (.long ((k171_19 * (Int64.ofInt (pw_gm h15 125 29))) - ((((pw_gl h15 125 26) + (pw_gl h15 125 28)) - k171_19) * (Int64.ofInt (pw_gm h15 125 27))))), none]) rfl rfl rfl rfl ?_
                                      refine pw_ld E (pc' := 257) (st' := [.long k153_13]) rfl (fun _ => rfl) ?_
                                      refine pw_ld E (pc' := 259) (st' := [.long ((k171_19 * (Int64.ofInt (pw_gm h15 125 29))) - ((((pw_gl h15 125 26) + (pw_gl h15 125 28)) - k171_19) * (Int64.ofInt (pw_gm h15 125 27)))), .long k153_13]) rfl (fun _ => rfl) ?_
                                      refine pw_ld E (pc' := 261) (st' := [.long (-(pw_gl h15 125 24)), .long ((k171_19 * (Int64.ofInt (pw_gm h15 125 29))) - ((((pw_gl h15 125 26) + (pw_gl h15 125 28)) - k171_19) * (Int64.ofInt (pw_gm h15 125 27)))), .long k153_13]) rfl (fun _ => rfl) ?_
                                      refine pw_lcmp E (pc' := 262) rfl rfl (fun c92 hc92 => ?_)
                                      refine pw_if E (pc' := 274) rfl (by decide) (by omega) (by omega) ?_ ?_
                                      · intro hc93
                                        change (0 : Int) ≤ c92 at hc93
                                        refine pw_ld E (pc' := 275) (st' := [.long (Int64.ofInt 1), .long k153_13]) rfl (fun _ => rfl) ?_
                                        refine pw_goto E (pc' := 279) rfl (by decide) ?_
                                        refine pw_ld E (pc' := 280) (st' := [.long (k153_13 + (Int64.ofInt 1))]) rfl (fun _ => rfl) ?_
                                        refine pw_lst E (pc' := 282) (ls' := [some (.ref 141), some (pw_i b), some (pw_i e), some (pw_i wt), some (.long (-(pw_gl h15 125 24))), none, some (.long (Int64.ofInt (pw_gm h15 125 27))), none, some (.long (Int64.ofInt (pw_gm h15 125 29))), none, some (.long ((pw_gl h15 125 26) + (pw_gl h15 125 28))), none, some (pw_i k102_12), some (.long (k153_13 + (Int64.ofInt 1))), none, some (.long (Int64.ofInt (k153_15 + 1))), none, some (pw_i k153_17), some (pw_i k171_18), some (.long k171_19), none, some (.long ((k171_19 * (Int64.ofInt (pw_gm h15 125 29))) - ((((pw_gl h15 125 26) + (pw_gl h15 125 28)) - k171_19) * (Int64.ofInt (pw_gm h15 125 27))))), none]) rfl rfl rfl rfl ?_
                                        refine pw_inc E (pc' := 285) (ls' := [some (.ref 141), some (pw_i b), some (pw_i e), some (pw_i wt), some (.long (-(pw_gl h15 125 24))), none, some (.long (Int64.ofInt (pw_gm h15 125 27))), none, some (.long (Int64.ofInt (pw_gm h15 125 29))), none, some (.long ((pw_gl h15 125 26) + (pw_gl h15 125 28))), none, some (pw_i k102_12), some (.long (k153_13 + (Int64.ofInt 1))), none, some (.long (Int64.ofInt (k153_15 + 1))), none, some (pw_i (k153_17 + 1)), some (pw_i k171_18), some (.long k171_19), none, some (.long ((k171_19 * (Int64.ofInt (pw_gm h15 125 29))) - ((((pw_gl h15 125 26) + (pw_gl h15 125 28)) - k171_19) * (Int64.ofInt (pw_gm h15 125 27))))), none]) rfl rfl rfl rfl ?_
                                        refine pw_goto E (pc' := 153) rfl (by decide) ?_
                                        exact ih153 _ (by omega) (k153_13 + (Int64.ofInt 1)) (k153_15 + 1) (k153_17 + 1) (some (pw_i k171_18)) (some (.long k171_19)) (some (.long ((k171_19 * (Int64.ofInt (pw_gm h15 125 29))) - ((((pw_gl h15 125 26) + (pw_gl h15 125 28)) - k171_19) * (Int64.ofInt (pw_gm h15 125 27))))))  (by omega) (by omega) (by omega) (by omega) (by omega) (by omega) rfl
                                      · intro hc94
                                        change ¬ ((0 : Int) ≤ c92) at hc94
                                        refine pw_ld E (pc' := 267) (st' := [.long ((k171_19 * (Int64.ofInt (pw_gm h15 125 29))) - ((((pw_gl h15 125 26) + (pw_gl h15 125 28)) - k171_19) * (Int64.ofInt (pw_gm h15 125 27)))), .long k153_13]) rfl (fun _ => rfl) ?_
                                        refine pw_ld E (pc' := 268) (st' := [.long (-((k171_19 * (Int64.ofInt (pw_gm h15 125 29))) - ((((pw_gl h15 125 26) + (pw_gl h15 125 28)) - k171_19) * (Int64.ofInt (pw_gm h15 125 27))))), .long k153_13]) rfl (fun _ => rfl) ?_
                                        refine pw_ld E (pc' := 270) (st' := [.long (-(pw_gl h15 125 24)), .long (-((k171_19 * (Int64.ofInt (pw_gm h15 125 29))) - ((((pw_gl h15 125 26) + (pw_gl h15 125 28)) - k171_19) * (Int64.ofInt (pw_gm h15 125 27))))), .long k153_13]) rfl (fun _ => rfl) ?_
                                        refine pw_lcmp E (pc' := 271) rfl rfl (fun c95 hc95 => ?_)
                                        refine pw_if E (pc' := 278) rfl (by decide) (by omega) (by omega) ?_ ?_
                                        · intro hc96
                                          change c95 < (0 : Int) at hc96
                                          refine pw_ld E (pc' := 279) (st' := [.long (Int64.ofInt 0), .long k153_13]) rfl (fun _ => rfl) ?_
                                          refine pw_ld E (pc' := 280) (st' := [.long (k153_13 + (Int64.ofInt 0))]) rfl (fun _ => rfl) ?_
                                          refine pw_lst E (pc' := 282) (ls' := [some (.ref 141), some (pw_i b), some (pw_i e), some (pw_i wt), some (.long (-(pw_gl h15 125 24))), none, some (.long (Int64.ofInt (pw_gm h15 125 27))), none, some (.long (Int64.ofInt (pw_gm h15 125 29))), none, some (.long ((pw_gl h15 125 26) + (pw_gl h15 125 28))), none, some (pw_i k102_12), some (.long (k153_13 + (Int64.ofInt 0))), none, some (.long (Int64.ofInt (k153_15 + 1))), none, some (pw_i k153_17), some (pw_i k171_18), some (.long k171_19), none, some (.long ((k171_19 * (Int64.ofInt (pw_gm h15 125 29))) - ((((pw_gl h15 125 26) + (pw_gl h15 125 28)) - k171_19) * (Int64.ofInt (pw_gm h15 125 27))))), none]) rfl rfl rfl rfl ?_
                                          refine pw_inc E (pc' := 285) (ls' := [some (.ref 141), some (pw_i b), some (pw_i e), some (pw_i wt), some (.long (-(pw_gl h15 125 24))), none, some (.long (Int64.ofInt (pw_gm h15 125 27))), none, some (.long (Int64.ofInt (pw_gm h15 125 29))), none, some (.long ((pw_gl h15 125 26) + (pw_gl h15 125 28))), none, some (pw_i k102_12), some (.long (k153_13 + (Int64.ofInt 0))), none, some (.long (Int64.ofInt (k153_15 + 1))), none, some (pw_i (k153_17 + 1)), some (pw_i k171_18), some (.long k171_19), none, some (.long ((k171_19 * (Int64.ofInt (pw_gm h15 125 29))) - ((((pw_gl h15 125 26) + (pw_gl h15 125 28)) - k171_19) * (Int64.ofInt (pw_gm h15 125 27))))), none]) rfl rfl rfl rfl ?_
                                          refine pw_goto E (pc' := 153) rfl (by decide) ?_
                                          exact ih153 _ (by omega) (k153_13 + (Int64.ofInt 0)) (k153_15 + 1) (k153_17 + 1) (some (pw_i k171_18)) (some (.long k171_19)) (some (.long ((k171_19 * (Int64.ofInt (pw_gm h15 125 29))) - ((((pw_gl h15 125 26) + (pw_gl h15 125 28)) - k171_19) * (Int64.ofInt (pw_gm h15 125 27))))))  (by omega) (by omega) (by omega) (by omega) (by omega) (by omega) rfl
                                        · intro hc97
                                          change ¬ (c95 < (0 : Int)) at hc97
                                          refine pw_ld E (pc' := 275) (st' := [.long (Int64.ofInt 1), .long k153_13]) rfl (fun _ => rfl) ?_
                                          refine pw_goto E (pc' := 279) rfl (by decide) ?_
                                          refine pw_ld E (pc' := 280) (st' := [.long (k153_13 + (Int64.ofInt 1))]) rfl (fun _ => rfl) ?_
                                          refine pw_lst E (pc' := 282) (ls' := [some (.ref 141), some (pw_i b), some (pw_i e), some (pw_i wt), some (.long (-(pw_gl h15 125 24))), none, some (.long (Int64.ofInt (pw_gm h15 125 27))), none, some (.long (Int64.ofInt (pw_gm h15 125 29))), none, some (.long ((pw_gl h15 125 26) + (pw_gl h15 125 28))), none, some (pw_i k102_12), some (.long (k153_13 + (Int64.ofInt 1))), none, some (.long (Int64.ofInt (k153_15 + 1))), none, some (pw_i k153_17), some (pw_i k171_18), some (.long k171_19), none, some (.long ((k171_19 * (Int64.ofInt (pw_gm h15 125 29))) - ((((pw_gl h15 125 26) + (pw_gl h15 125 28)) - k171_19) * (Int64.ofInt (pw_gm h15 125 27))))), none]) rfl rfl rfl rfl ?_
                                          refine pw_inc E (pc' := 285) (ls' := [some (.ref 141), some (pw_i b), some (pw_i e), some (pw_i wt), some (.long (-(pw_gl h15 125 24))), none, some (.long (Int64.ofInt (pw_gm h15 125 27))), none, some (.long (Int64.ofInt (pw_gm h15 125 29))), none, some (.long ((pw_gl h15 125 26) + (pw_gl h15 125 28))), none, some (pw_i k102_12), some (.long (k153_13 + (Int64.ofInt 1))), none, some (.long (Int64.ofInt (k153_15 + 1))), none, some (pw_i (k153_17 + 1)), some (pw_i k171_18), some (.long k171_19), none, some (.long ((k171_19 * (Int64.ofInt (pw_gm h15 125 29))) - ((((pw_gl h15 125 26) + (pw_gl h15 125 28)) - k171_19) * (Int64.ofInt (pw_gm h15 125 27))))), none]) rfl rfl rfl rfl ?_
                                          refine pw_goto E (pc' := 153) rfl (by decide) ?_
                                          exact ih153 _ (by omega) (k153_13 + (Int64.ofInt 1)) (k153_15 + 1) (k153_17 + 1) (some (pw_i k171_18)) (some (.long k171_19)) (some (.long ((k171_19 * (Int64.ofInt (pw_gm h15 125 29))) - ((((pw_gl h15 125 26) + (pw_gl h15 125 28)) - k171_19) * (Int64.ofInt (pw_gm h15 125 27))))))  (by omega) (by omega) (by omega) (by omega) (by omega) (by omega) rfl
                                  · intro hc98
                                    change ¬ (k102_12 ≤ k171_21) at hc98
                                    refine pw_ld E (pc' := 180) (st' := [pw_i k171_18]) rfl (fun _ => rfl) ?_
                                    refine pw_ld E (pc' := 182) (st' := [pw_i k153_17, pw_i k171_18]) rfl (fun _ => rfl) ?_
                                    refine pw_ld E (pc' := 184) (st' := [pw_i k171_21, pw_i k153_17, pw_i k171_18]) rfl (fun _ => rfl) ?_
                                    refine pw_iiE (f := fun x y => x >>> (y &&& 31)) (c := pw_sr k153_17 k171_21) E (pc' := 185) rfl (fun _ => rfl) rfl ?_
                                    have hp99 := pw_sr_r k153_17 k171_21
                                    refine pw_ld E (pc' := 186) (st' := [pw_i 1, pw_i (pw_sr k153_17 k171_21), pw_i k171_18]) rfl (fun _ => rfl) ?_
                                    refine pw_iiE (f := fun x y => x &&& y) (c := pw_an (pw_sr k153_17 k171_21) 1) E (pc' := 187) rfl (fun _ => rfl) rfl ?_
                                    have hp100 := pw_an_r (pw_sr k153_17 k171_21)
                                    refine pw_add E (pc' := 188) rfl rfl ?_
                                    refine pw_ist E (pc' := 190) (ls' := [some (.ref 141), some (pw_i b), some (pw_i e), some (pw_i wt), some (.long (-(pw_gl h15 125 24))), none, some (.long (Int64.ofInt (pw_gm h15 125 27))), none, some (.long (Int64.ofInt (pw_gm h15 125 29))), none, some (.long ((pw_gl h15 125 26) + (pw_gl h15 125 28))), none, some (pw_i k102_12), some (.long k153_13), none, some (.long (Int64.ofInt k153_15)), none, some (pw_i k153_17), some (pw_i (k171_18 + (pw_an (pw_sr k153_17 k171_21) 1))), some (.long k171_19), none, some (pw_i k171_21), none]) rfl rfl rfl rfl ?_
                                    refine pw_ld E (pc' := 192) (st' := [.long k171_19]) rfl (fun _ => rfl) ?_
                                    refine pw_ld E (pc' := 194) (st' := [pw_i k153_17, .long k171_19]) rfl (fun _ => rfl) ?_
                                    refine pw_ld E (pc' := 196) (st' := [pw_i k171_21, pw_i k153_17, .long k171_19]) rfl (fun _ => rfl) ?_
                                    refine pw_iiE (f := fun x y => x >>> (y &&& 31)) (c := pw_sr k153_17 k171_21) E (pc' := 197) rfl (fun _ => rfl) rfl ?_
                                    have hp101 := pw_sr_r k153_17 k171_21
                                    refine pw_ld E (pc' := 198) (st' := [pw_i 1, pw_i (pw_sr k153_17 k171_21), .long k171_19]) rfl (fun _ => rfl) ?_
                                    refine pw_iiE (f := fun x y => x &&& y) (c := pw_an (pw_sr k153_17 k171_21) 1) E (pc' := 199) rfl (fun _ => rfl) rfl ?_
                                    have hp102 := pw_an_r (pw_sr k153_17 k171_21)
                                    refine pw_ld E (pc' := 200) (st' := [pw_i 1, pw_i (pw_an (pw_sr k153_17 k171_21) 1), .long k171_19]) rfl (fun _ => rfl) ?_
                                    refine pw_if2 E (pc' := 214) rfl (by decide) (by omega) (by omega) (by decide) (by decide) ?_ ?_
                                    · intro hc103
                                      change pw_an (pw_sr k153_17 k171_21) 1 ≠ (1 : Int) at hc103
                                      refine pw_ld E (pc' := 215) (st' := [.long (Int64.ofInt 0), .long k171_19]) rfl (fun _ => rfl) ?_
                                      refine pw_ld E (pc' := 216) (st' := [.long (k171_19 + (Int64.ofInt 0))]) rfl (fun _ => rfl) ?_
                                      refine pw_lst E (pc' := 218) (ls' := [some (.ref 141), some (pw_i b), some (pw_i e), some (pw_i wt), some (.long (-(pw_gl h15 125 24))), none, some (.long (Int64.ofInt (pw_gm h15 125 27))), none, some (.long (Int64.ofInt (pw_gm h15 125 29))), none, some (.long ((pw_gl h15 125 26) + (pw_gl h15 125 28))), none, some (pw_i k102_12), some (.long k153_13), none, some (.long (Int64.ofInt k153_15)), none, some (pw_i k153_17), some (pw_i (k171_18 + (pw_an (pw_sr k153_17 k171_21) 1))), some (.long (k171_19 + (Int64.ofInt 0))), none, some (pw_i k171_21), none]) rfl rfl rfl rfl ?_
                                      refine pw_inc E (pc' := 221) (ls' := [some (.ref 141), some (pw_i b), some (pw_i e), some (pw_i wt), some (.long (-(pw_gl h15 125 24))), none, some (.long (Int64.ofInt (pw_gm h15 125 27))), none, some (.long (Int64.ofInt (pw_gm h15 125 29))), none, some (.long ((pw_gl h15 125 26) + (pw_gl h15 125 28))), none, some (pw_i k102_12), some (.long k153_13), none, some (.long (Int64.ofInt k153_15)), none, some (pw_i k153_17), some (pw_i (k171_18 + (pw_an (pw_sr k153_17 k171_21) 1))), some (.long (k171_19 + (Int64.ofInt 0))), none, some (pw_i (k171_21 + 1)), none]) rfl rfl rfl rfl ?_
                                      refine pw_goto E (pc' := 171) rfl (by decide) ?_
                                      exact ih171 _ (by omega) (k171_18 + (pw_an (pw_sr k153_17 k171_21) 1)) (k171_19 + (Int64.ofInt 0)) (k171_21 + 1)  (by omega) (by omega) (by omega) (by omega) (by rw [pw_btS (by omega)]; omega) (by omega) (by omega) rfl
                                    · intro hc104
                                      change ¬ (pw_an (pw_sr k153_17 k171_21) 1 ≠ (1 : Int)) at hc104
                                      refine pw_ld E (pc' := 204) (st' := [.ref 141, .long k171_19]) rfl (fun _ => rfl) ?_
                                      refine pw_getR (b := 160) I102 E (c := 125) (k := 30) (pc' := 207) rfl rfl rfl rfl rfl rfl rfl ?_
                                      refine pw_ld E (pc' := 209) (st' := [pw_i k171_21, .ref 160, .long k171_19]) rfl (fun _ => rfl) ?_
                                      refine pw_ald2 I102 E (c := 144) (pc' := 210) rfl rfl rfl (by decide) rfl (by decide) (by omega) (by omega) rfl (fun hf105a hf105b => ?_)
                                      refine pw_i2l E (pc' := 211) rfl rfl (by omega) (by omega) ?_
                                      refine pw_goto E (pc' := 215) rfl (by decide) ?_
                                      refine pw_ld E (pc' := 216) (st' := [.long (k171_19 + (Int64.ofInt (pw_g gh102 144 (k171_21.toNat))))]) rfl (fun _ => rfl) ?_
                                      refine pw_lst E (pc' := 218) (ls' := [some (.ref 141), some (pw_i b), some (pw_i e), some (pw_i wt), some (.long (-(pw_gl h15 125 24))), none, some (.long (Int64.ofInt (pw_gm h15 125 27))), none, some (.long (Int64.ofInt (pw_gm h15 125 29))), none, some (.long ((pw_gl h15 125 26) + (pw_gl h15 125 28))), none, some (pw_i k102_12), some (.long k153_13), none, some (.long (Int64.ofInt k153_15)), none, some (pw_i k153_17), some (pw_i (k171_18 + (pw_an (pw_sr k153_17 k171_21) 1))), some (.long (k171_19 + (Int64.ofInt (pw_g gh102 144 (k171_21.toNat))))), none, some (pw_i k171_21), none]) rfl rfl rfl rfl ?_
                                      refine pw_inc E (pc' := 221) (ls' := [some (.ref 141), some (pw_i b), some (pw_i e), some (pw_i wt), some (.long (-(pw_gl h15 125 24))), none, some (.long (Int64.ofInt (pw_gm h15 125 27))), none, some (.long (Int64.ofInt (pw_gm h15 125 29))), none, some (.long ((pw_gl h15 125 26) + (pw_gl h15 125 28))), none, some (pw_i k102_12), some (.long k153_13), none, some (.long (Int64.ofInt k153_15)), none, some (pw_i k153_17), some (pw_i (k171_18 + (pw_an (pw_sr k153_17 k171_21) 1))), some (.long (k171_19 + (Int64.ofInt (pw_g gh102 144 (k171_21.toNat))))), none, some (pw_i (k171_21 + 1)), none]) rfl rfl rfl rfl ?_
                                      refine pw_goto E (pc' := 171) rfl (by decide) ?_
                                      exact ih171 _ (by omega) (k171_18 + (pw_an (pw_sr k153_17 k171_21) 1)) (k171_19 + (Int64.ofInt (pw_g gh102 144 (k171_21.toNat)))) (k171_21 + 1)  (by omega) (by omega) (by omega) (by omega) (by rw [pw_btS (by omega)]; omega) (by omega) (by omega) rfl
                              exact L171 _ (0) (Int64.ofInt 0) (0)  (by omega) (by omega) (by omega) (by omega) rfl (by omega) (by omega) rfl
                        exact L153 _ (Int64.ofInt 0) (0) (0) (none) (none) (none)  (by omega) (by omega) (by omega) (by omega) (by omega) (by omega) rfl
                      · intro hc106
                        change ¬ ((24 : Int) ≤ k102_13) at hc106
                        have hcE := pw_cdE I E102 rfl k102_13 b e
                        have hcS := pw_cS (h := h) (b := b) (e := e) (k := k102_13) (by omega)
                        have hcR := pw_cd_r h k102_13 b e
                        refine pw_ld E (pc' := 110) (st' := [.ref 141]) rfl (fun _ => rfl) ?_
                        refine pw_ld E (pc' := 112) (st' := [pw_i k102_13, .ref 141]) rfl (fun _ => rfl) ?_
                        refine pw_ld E (pc' := 113) (st' := [pw_i b, pw_i k102_13, .ref 141]) rfl (fun _ => rfl) ?_
                        refine pw_ld E (pc' := 114) (st' := [pw_i e, pw_i b, pw_i k102_13, .ref 141]) rfl (fun _ => rfl) ?_
                        obtain ⟨f107l, f107h, -⟩ := pw_obj (c := 125) I102 rfl
                        refine pw_call (m' := 214) (As := [.ref 141, pw_i k102_13, pw_i b, pw_i e]) (rest := []) (ls'' := [some (.ref 141), some (pw_i k102_13), some (pw_i b), some (pw_i e)]) (Nat.le_trans (by decide) hd) E rfl (fun _ => pw_iV rfl rfl rfl rfl (pw_cellI f107h rfl)) (rfl : pm_ent 214 = some (4, 4, 12, 1, pmc_214)) rfl rfl (cm_214_r (pw_dp hd (by decide)) I102 (k102_13) (by omega) (by omega) (b) (by omega) (by omega) (e) (by omega) (by omega)) ?_
                        rintro u109 v108 ⟨rfl, x110, rfl, hx110a, hx110b, hx110r⟩
                        refine ⟨_, rfl, ?_⟩
                        show pw X d gh102 233 117 [some (.ref 141), some (pw_i b), some (pw_i e), some (pw_i wt), some (.long (-(pw_gl h15 125 24))), none, some (.long (Int64.ofInt (pw_gm h15 125 27))), none, some (.long (Int64.ofInt (pw_gm h15 125 29))), none, some (.long ((pw_gl h15 125 26) + (pw_gl h15 125 28))), none, some (pw_i k102_12), some (pw_i k102_13), none, none, none, none, none, none, none, none, none] [pw_i x110] _
                        change x110 = pw_cd gh102 k102_13 b e at hx110r
                        rcases (by omega : x110 = 1 ∨ x110 = 0) with hb111 | hb111
                        · skip
                          refine pw_if E (pc' := 138) rfl (by decide) (by omega) (by omega) ?_ ?_
                          · intro hc112
                            change x110 = (0 : Int) at hc112
                            exfalso; omega
                          · intro hc113
                            change ¬ (x110 = (0 : Int)) at hc113
                            refine pw_ld E (pc' := 121) (st' := [.ref 141]) rfl (fun _ => rfl) ?_
                            refine pw_getR (b := 160) I102 E (c := 125) (k := 30) (pc' := 124) rfl rfl rfl rfl rfl rfl rfl ?_
                            refine pw_ld E (pc' := 126) (st' := [pw_i k102_12, .ref 160]) rfl (fun _ => rfl) ?_
                            refine pw_ld E (pc' := 127) (st' := [.ref 141, pw_i k102_12, .ref 160]) rfl (fun _ => rfl) ?_
                            refine pw_ld E (pc' := 129) (st' := [pw_i k102_13, .ref 141, pw_i k102_12, .ref 160]) rfl (fun _ => rfl) ?_
                            refine pw_ld E (pc' := 130) (st' := [pw_i b, pw_i k102_13, .ref 141, pw_i k102_12, .ref 160]) rfl (fun _ => rfl) ?_
                            refine pw_ld E (pc' := 131) (st' := [pw_i e, pw_i b, pw_i k102_13, .ref 141, pw_i k102_12, .ref 160]) rfl (fun _ => rfl) ?_
                            obtain ⟨f114l, f114h, -⟩ := pw_obj (c := 125) I102 rfl
                            refine pw_call (m' := 215) (As := [.ref 141, pw_i k102_13, pw_i b, pw_i e]) (rest := [pw_i k102_12, .ref 160]) (ls'' := [some (.ref 141), some (pw_i k102_13), some (pw_i b), some (pw_i e)]) (Nat.le_trans (by decide) hd) E rfl (fun _ => pw_iV rfl rfl rfl rfl (pw_cellI f114h rfl)) (rfl : pm_ent 215 = some (4, 4, 12, 0, pmc_215)) rfl rfl (cm_215 (pw_dp hd (by decide)) I102 (k102_13) (by omega) (by omega) (b) (by omega) (by omega) (e) (by omega) (by omega)) ?_
                            rintro u116 v115 ⟨rfl, x117, rfl, hx117a, hx117b⟩
                            refine ⟨_, rfl, ?_⟩
                            show pw X d gh102 233 134 [some (.ref 141), some (pw_i b), some (pw_i e), some (pw_i wt), some (.long (-(pw_gl h15 125 24))), none, some (.long (Int64.ofInt (pw_gm h15 125 27))), none, some (.long (Int64.ofInt (pw_gm h15 125 29))), none, some (.long ((pw_gl h15 125 26) + (pw_gl h15 125 28))), none, some (pw_i k102_12), some (pw_i k102_13), none, none, none, none, none, none, none, none, none] [pw_i x117, pw_i k102_12, .ref 160] _
                            refine pw_ast0 I102 E (c := 144) (pc' := 135) rfl rfl rfl (by decide) rfl (by decide) (by omega) (by omega) rfl (by omega) (by omega) (by omega) (by omega) rfl ?_
                            intro h118I h118E
                            generalize h118w : pw_w gh102 144 (k102_12.toNat) (pw_i x117) = h118 at h118I h118E ⊢
                            have h118F := E102.tr (h118E.wk (W' := [125, 144]) (by first | rfl | simp))
                            refine pw_inc E (pc' := 138) (ls' := [some (.ref 141), some (pw_i b), some (pw_i e), some (pw_i wt), some (.long (-(pw_gl h15 125 24))), none, some (.long (Int64.ofInt (pw_gm h15 125 27))), none, some (.long (Int64.ofInt (pw_gm h15 125 29))), none, some (.long ((pw_gl h15 125 26) + (pw_gl h15 125 28))), none, some (pw_i (k102_12 + 1)), some (pw_i k102_13), none, none, none, none, none, none, none, none, none]) rfl rfl rfl rfl ?_
                            refine pw_inc E (pc' := 141) (ls' := [some (.ref 141), some (pw_i b), some (pw_i e), some (pw_i wt), some (.long (-(pw_gl h15 125 24))), none, some (.long (Int64.ofInt (pw_gm h15 125 27))), none, some (.long (Int64.ofInt (pw_gm h15 125 29))), none, some (.long ((pw_gl h15 125 26) + (pw_gl h15 125 28))), none, some (pw_i (k102_12 + 1)), some (pw_i (k102_13 + 1)), none, none, none, none, none, none, none, none, none]) rfl rfl rfl rfl ?_
                            refine pw_goto E (pc' := 102) rfl (by decide) ?_
                            exact ih102 _ (by omega) (k102_12 + 1) (k102_13 + 1) h118 h118I h118F (by omega) (by omega) (by omega) (by omega) (by omega) (by omega) rfl
                        · skip
                          refine pw_if E (pc' := 138) rfl (by decide) (by omega) (by omega) ?_ ?_
                          · intro hc120
                            change x110 = (0 : Int) at hc120
                            refine pw_inc E (pc' := 141) (ls' := [some (.ref 141), some (pw_i b), some (pw_i e), some (pw_i wt), some (.long (-(pw_gl h15 125 24))), none, some (.long (Int64.ofInt (pw_gm h15 125 27))), none, some (.long (Int64.ofInt (pw_gm h15 125 29))), none, some (.long ((pw_gl h15 125 26) + (pw_gl h15 125 28))), none, some (pw_i k102_12), some (pw_i (k102_13 + 1)), none, none, none, none, none, none, none, none, none]) rfl rfl rfl rfl ?_
                            refine pw_goto E (pc' := 102) rfl (by decide) ?_
                            exact ih102 _ (by omega) (k102_12) (k102_13 + 1) gh102 I102 E102 (by omega) (by omega) (by omega) (by omega) (by omega) (by omega) rfl
                          · intro hc121
                            change ¬ (x110 = (0 : Int)) at hc121
                            exfalso; omega
                  exact L102 _ (0) (0) h15 h15I h15F (by omega) (by omega) (by omega) (by omega) (by show (0 : Int) = 0 + 0; omega) (by omega) rfl
              · intro hc122
                change ¬ (c23 ≤ (0 : Int)) at hc122
                refine pw_ld E (pc' := 49) (st' := [.long (Int64.ofInt ((-1)))]) rfl (fun _ => rfl) ?_
                refine pw_lret E rfl ?_
                exact ⟨h15I, h15F, ⟨_, rfl⟩⟩
          · skip
            refine pw_if E (pc' := 46) rfl (by decide) (by omega) (by omega) ?_ ?_
            · intro hc124
              change x17 = (0 : Int) at hc124
              refine pw_ld E (pc' := 49) (st' := [.long (Int64.ofInt ((-1)))]) rfl (fun _ => rfl) ?_
              refine pw_lret E rfl ?_
              exact ⟨h15I, h15F, ⟨_, rfl⟩⟩
            · intro hc125
              change ¬ (x17 = (0 : Int)) at hc125
              exfalso; omega
      · skip
        refine pw_if E (pc' := 46) rfl (by decide) (by omega) (by omega) ?_ ?_
        · intro hc127
          change x10 = (0 : Int) at hc127
          refine pw_ld E (pc' := 49) (st' := [.long (Int64.ofInt ((-1)))]) rfl (fun _ => rfl) ?_
          refine pw_lret E rfl ?_
          exact ⟨h1I, h1F, ⟨_, rfl⟩⟩
        · intro hc128
          change ¬ (x10 = (0 : Int)) at hc128
          exfalso; omega
  · skip
    refine pw_if E (pc' := 46) rfl (by decide) (by omega) (by omega) ?_ ?_
    · intro hc130
      change x4 = (0 : Int) at hc130
      refine pw_ld E (pc' := 49) (st' := [.long (Int64.ofInt ((-1)))]) rfl (fun _ => rfl) ?_
      refine pw_lret E rfl ?_
      exact ⟨h1I, h1F, ⟨_, rfl⟩⟩
    · intro hc131
      change ¬ (x4 = (0 : Int)) at hc131
      exfalso; omega
