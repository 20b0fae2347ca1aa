/-! the model (printed by wip/tool/mall.py) -/
theorem pw_Q.wk {e e' : Int} {a b : pm_H} (h1 : pw_Q e a b) (he : e' ≤ e) : pw_Q e' a b := ⟨h1.1, h1.2.1, h1.2.2.1, by have := h1.2.2.2.1; omega, h1.2.2.2.2⟩
/-- the answers of isSign and isWord -/
def pw_sg (h : pm_H) (c : Int) : Int := if pw_g h 125 8 = 0 ∧ pw_g h 127 (pw_g h 125 7).toNat = 3 ∧ pw_gl h 129 (pw_g h 125 7).toNat = Int64.ofInt c then 1 else 0
def pw_wd (h : pm_H) (w : Int) : Int := if pw_g h 125 8 = 0 ∧ pw_g h 127 (pw_g h 125 7).toNat = 1 ∧ pw_gl h 129 (pw_g h 125 7).toNat = pw_gl h 130 w.toNat then 1 else 0

set_option maxHeartbeats 4000000 in
theorem cm_254 {X : List (Nat × List Value)} {d : Nat} {h : pm_H} (hd : 1 ≤ d) (I : pw_I h) (ch : Int) (hch1 : (-2147483648) ≤ ch) (hch2 : ch ≤ 2147483647) : pw X d h 254 0 [some (.ref 141), some (pw_i ch)] [] (fun h' v => h = h' ∧ ∃ a : Int, v = .inl (some (pw_i a)) ∧ 0 ≤ a ∧ a ≤ 1 ∧ (a = pw_sg h ch ∧ (a = 1 → pw_g h 125 8 = 0 ∧ pw_g h 127 (pw_g h 125 7).toNat = 3))) := by
  have E : pm_ent 254 = some (2, 2, 12, 1, pmc_254) := rfl
  refine pw_ld E (pc' := 1) (st' := [.ref 141]) rfl (fun _ => rfl) ?_
  refine pw_getI2 I E (c := 125) (k := 8) (pc' := 4) rfl rfl rfl rfl rfl rfl (fun hf1a hf1b => ?_)
  refine pw_if E (pc' := 39) rfl (by decide) (by omega) (by omega) ?_ ?_
  · intro hc2
    change pw_g h 125 8 ≠ (0 : Int) at hc2
    refine pw_ld E (pc' := 40) (st' := [pw_i 0]) rfl (fun _ => rfl) ?_
    refine pw_zret E rfl (by omega) ?_
    exact ⟨rfl, ⟨_, rfl, by omega, by omega, ⟨by unfold pw_sg; first | exact (if_pos ⟨by omega, by omega, pw_ceq (by assumption) (by omega)⟩).symm | exact (if_neg (fun q => by first | exact absurd q.1 (by omega) | exact absurd q.2.1 (by omega) | exact absurd q.2.2 (pw_nz (by assumption) (by omega)))).symm, fun _ => ⟨by omega, by omega⟩⟩⟩⟩
  · intro hc3
    change ¬ (pw_g h 125 8 ≠ (0 : Int)) at hc3
    refine pw_ld E (pc' := 8) (st' := [.ref 141]) rfl (fun _ => rfl) ?_
    refine pw_getR (b := 143) I E (c := 125) (k := 4) (pc' := 11) rfl rfl rfl rfl rfl rfl rfl ?_
    refine pw_ld E (pc' := 12) (st' := [.ref 141, .ref 143]) rfl (fun _ => rfl) ?_
    refine pw_getI2 I E (c := 125) (k := 7) (pc' := 15) rfl rfl rfl rfl rfl rfl (fun hf4a hf4b => ?_)
    refine pw_ald2 I E (c := 127) (pc' := 16) rfl rfl rfl (by decide) rfl (by decide) (by omega) (by omega) rfl (fun hf5a hf5b => ?_)
    refine pw_ld E (pc' := 17) (st' := [pw_i 3, pw_i (pw_g h 127 ((pw_g h 125 7).toNat))]) rfl (fun _ => rfl) ?_
    refine pw_if2 E (pc' := 39) rfl (by decide) (by omega) (by omega) (by decide) (by decide) ?_ ?_
    · intro hc6
      change pw_g h 127 ((pw_g h 125 7).toNat) ≠ (3 : Int) at hc6
      refine pw_ld E (pc' := 40) (st' := [pw_i 0]) rfl (fun _ => rfl) ?_
      refine pw_zret E rfl (by omega) ?_
      exact ⟨rfl, ⟨_, rfl, by omega, by omega, ⟨by unfold pw_sg; first | exact (if_pos ⟨by omega, by omega, pw_ceq (by assumption) (by omega)⟩).symm | exact (if_neg (fun q => by first | exact absurd q.1 (by omega) | exact absurd q.2.1 (by omega) | exact absurd q.2.2 (pw_nz (by assumption) (by omega)))).symm, fun _ => ⟨by omega, by omega⟩⟩⟩⟩
    · intro hc7
      change ¬ (pw_g h 127 ((pw_g h 125 7).toNat) ≠ (3 : Int)) at hc7
      refine pw_ld E (pc' := 21) (st' := [.ref 141]) rfl (fun _ => rfl) ?_
      refine pw_getR (b := 145) I E (c := 125) (k := 6) (pc' := 24) rfl rfl rfl rfl rfl rfl rfl ?_
      refine pw_ld E (pc' := 25) (st' := [.ref 141, .ref 145]) rfl (fun _ => rfl) ?_
      refine pw_getI2 I E (c := 125) (k := 7) (pc' := 28) rfl rfl rfl rfl rfl rfl (fun hf8a hf8b => ?_)
      refine pw_lald I E (c := 129) (pc' := 29) rfl rfl rfl (by decide) (by omega) (by omega) rfl ?_
      refine pw_ld E (pc' := 30) (st' := [pw_i ch, .long (pw_gl h 129 ((pw_g h 125 7).toNat))]) rfl (fun _ => rfl) ?_
      refine pw_i2l E (pc' := 31) rfl rfl (by omega) (by omega) ?_
      refine pw_lcmp E (pc' := 32) rfl rfl (fun c9 hc9 => ?_)
      refine pw_if E (pc' := 39) rfl (by decide) (by omega) (by omega) ?_ ?_
      · intro hc10
        change c9 ≠ (0 : Int) at hc10
        refine pw_ld E (pc' := 40) (st' := [pw_i 0]) rfl (fun _ => rfl) ?_
        refine pw_zret E rfl (by omega) ?_
        exact ⟨rfl, ⟨_, rfl, by omega, by omega, ⟨by unfold pw_sg; first | exact (if_pos ⟨by omega, by omega, pw_ceq (by assumption) (by omega)⟩).symm | exact (if_neg (fun q => by first | exact absurd q.1 (by omega) | exact absurd q.2.1 (by omega) | exact absurd q.2.2 (pw_nz (by assumption) (by omega)))).symm, fun _ => ⟨by omega, by omega⟩⟩⟩⟩
      · intro hc11
        change ¬ (c9 ≠ (0 : Int)) at hc11
        refine pw_ld E (pc' := 36) (st' := [pw_i 1]) rfl (fun _ => rfl) ?_
        refine pw_goto E (pc' := 40) rfl (by decide) ?_
        refine pw_zret E rfl (by omega) ?_
        exact ⟨rfl, ⟨_, rfl, by omega, by omega, ⟨by unfold pw_sg; first | exact (if_pos ⟨by omega, by omega, pw_ceq (by assumption) (by omega)⟩).symm | exact (if_neg (fun q => by first | exact absurd q.1 (by omega) | exact absurd q.2.1 (by omega) | exact absurd q.2.2 (pw_nz (by assumption) (by omega)))).symm, fun _ => ⟨by omega, by omega⟩⟩⟩⟩
set_option maxHeartbeats 4000000 in
theorem cm_244 {X : List (Nat × List Value)} {d : Nat} {h : pm_H} (hd : 1 ≤ d) (I : pw_I h) (wd : Int) (hwd1 : 0 ≤ wd) (hwd2 : wd ≤ 27) : pw X d h 244 0 [some (.ref 141), some (pw_i wd)] [] (fun h' v => h = h' ∧ ∃ a : Int, v = .inl (some (pw_i a)) ∧ 0 ≤ a ∧ a ≤ 1 ∧ (a = pw_wd h wd ∧ (a = 1 → pw_g h 125 8 = 0 ∧ pw_g h 127 (pw_g h 125 7).toNat = 1))) := by
  have E : pm_ent 244 = some (2, 2, 12, 1, pmc_244) := rfl
  refine pw_ld E (pc' := 1) (st' := [.ref 141]) rfl (fun _ => rfl) ?_
  refine pw_getI2 I E (c := 125) (k := 8) (pc' := 4) rfl rfl rfl rfl rfl rfl (fun hf1a hf1b => ?_)
  refine pw_if E (pc' := 43) rfl (by decide) (by omega) (by omega) ?_ ?_
  · intro hc2
    change pw_g h 125 8 ≠ (0 : Int) at hc2
    refine pw_ld E (pc' := 44) (st' := [pw_i 0]) rfl (fun _ => rfl) ?_
    refine pw_zret E rfl (by omega) ?_
    exact ⟨rfl, ⟨_, rfl, by omega, by omega, ⟨by unfold pw_wd; first | exact (if_pos ⟨by omega, by omega, pw_ceq (by assumption) (by omega)⟩).symm | exact (if_neg (fun q => by first | exact absurd q.1 (by omega) | exact absurd q.2.1 (by omega) | exact absurd q.2.2 (pw_nz (by assumption) (by omega)))).symm, fun _ => ⟨by omega, by omega⟩⟩⟩⟩
  · intro hc3
    change ¬ (pw_g h 125 8 ≠ (0 : Int)) at hc3
    refine pw_ld E (pc' := 8) (st' := [.ref 141]) rfl (fun _ => rfl) ?_
    refine pw_getR (b := 143) I E (c := 125) (k := 4) (pc' := 11) rfl rfl rfl rfl rfl rfl rfl ?_
    refine pw_ld E (pc' := 12) (st' := [.ref 141, .ref 143]) rfl (fun _ => rfl) ?_
    refine pw_getI2 I E (c := 125) (k := 7) (pc' := 15) rfl rfl rfl rfl rfl rfl (fun hf4a hf4b => ?_)
    refine pw_ald2 I E (c := 127) (pc' := 16) rfl rfl rfl (by decide) rfl (by decide) (by omega) (by omega) rfl (fun hf5a hf5b => ?_)
    refine pw_ld E (pc' := 17) (st' := [pw_i 1, pw_i (pw_g h 127 ((pw_g h 125 7).toNat))]) rfl (fun _ => rfl) ?_
    refine pw_if2 E (pc' := 43) rfl (by decide) (by omega) (by omega) (by decide) (by decide) ?_ ?_
    · intro hc6
      change pw_g h 127 ((pw_g h 125 7).toNat) ≠ (1 : Int) at hc6
      refine pw_ld E (pc' := 44) (st' := [pw_i 0]) rfl (fun _ => rfl) ?_
      refine pw_zret E rfl (by omega) ?_
      exact ⟨rfl, ⟨_, rfl, by omega, by omega, ⟨by unfold pw_wd; first | exact (if_pos ⟨by omega, by omega, pw_ceq (by assumption) (by omega)⟩).symm | exact (if_neg (fun q => by first | exact absurd q.1 (by omega) | exact absurd q.2.1 (by omega) | exact absurd q.2.2 (pw_nz (by assumption) (by omega)))).symm, fun _ => ⟨by omega, by omega⟩⟩⟩⟩
    · intro hc7
      change ¬ (pw_g h 127 ((pw_g h 125 7).toNat) ≠ (1 : Int)) at hc7
      refine pw_ld E (pc' := 21) (st' := [.ref 141]) rfl (fun _ => rfl) ?_
      refine pw_getR (b := 145) I E (c := 125) (k := 6) (pc' := 24) rfl rfl rfl rfl rfl rfl rfl ?_
      refine pw_ld E (pc' := 25) (st' := [.ref 141, .ref 145]) rfl (fun _ => rfl) ?_
      refine pw_getI2 I E (c := 125) (k := 7) (pc' := 28) rfl rfl rfl rfl rfl rfl (fun hf8a hf8b => ?_)
      refine pw_lald I E (c := 129) (pc' := 29) rfl rfl rfl (by decide) (by omega) (by omega) rfl ?_
      refine pw_ld E (pc' := 30) (st' := [.ref 141, .long (pw_gl h 129 ((pw_g h 125 7).toNat))]) rfl (fun _ => rfl) ?_
      refine pw_getR (b := 146) I E (c := 125) (k := 9) (pc' := 33) rfl rfl rfl rfl rfl rfl rfl ?_
      refine pw_ld E (pc' := 34) (st' := [pw_i wd, .ref 146, .long (pw_gl h 129 ((pw_g h 125 7).toNat))]) rfl (fun _ => rfl) ?_
      refine pw_lald I E (c := 130) (pc' := 35) rfl rfl rfl (by decide) (by omega) (by omega) rfl ?_
      refine pw_lcmp E (pc' := 36) rfl rfl (fun c9 hc9 => ?_)
      refine pw_if E (pc' := 43) rfl (by decide) (by omega) (by omega) ?_ ?_
      · intro hc10
        change c9 ≠ (0 : Int) at hc10
        refine pw_ld E (pc' := 44) (st' := [pw_i 0]) rfl (fun _ => rfl) ?_
        refine pw_zret E rfl (by omega) ?_
        exact ⟨rfl, ⟨_, rfl, by omega, by omega, ⟨by unfold pw_wd; first | exact (if_pos ⟨by omega, by omega, pw_ceq (by assumption) (by omega)⟩).symm | exact (if_neg (fun q => by first | exact absurd q.1 (by omega) | exact absurd q.2.1 (by omega) | exact absurd q.2.2 (pw_nz (by assumption) (by omega)))).symm, fun _ => ⟨by omega, by omega⟩⟩⟩⟩
      · intro hc11
        change ¬ (c9 ≠ (0 : Int)) at hc11
        refine pw_ld E (pc' := 40) (st' := [pw_i 1]) rfl (fun _ => rfl) ?_
        refine pw_goto E (pc' := 44) rfl (by decide) ?_
        refine pw_zret E rfl (by omega) ?_
        exact ⟨rfl, ⟨_, rfl, by omega, by omega, ⟨by unfold pw_wd; first | exact (if_pos ⟨by omega, by omega, pw_ceq (by assumption) (by omega)⟩).symm | exact (if_neg (fun q => by first | exact absurd q.1 (by omega) | exact absurd q.2.1 (by omega) | exact absurd q.2.2 (pw_nz (by assumption) (by omega)))).symm, fun _ => ⟨by omega, by omega⟩⟩⟩⟩
set_option maxHeartbeats 4000000 in
theorem cm_253 {X : List (Nat × List Value)} {d : Nat} {h : pm_H} (hd : 2 ≤ d) (I : pw_I h)  : pw X d h 253 0 [some (.ref 141), none, none] [] (fun h' v => h = h' ∧ ∃ a : Int, v = .inl (some (pw_i a)) ∧ (-1) ≤ a ∧ a ≤ 9 ∧ (a < 0 ∨ (0 ≤ a ∧ a ≤ 9 ∧ pw_g h 127 (pw_g h 125 7).toNat = 1))) := by
  have E : pm_ent 253 = some (1, 3, 12, 0, pmc_253) := rfl
  refine pw_ld E (pc' := 1) (st' := [pw_i ((-1))]) rfl (fun _ => rfl) ?_
  refine pw_istn E (pc' := 2) (ls' := [some (.ref 141), some (pw_i ((-1))), none]) rfl rfl rfl rfl ?_
  refine pw_bip E (pc' := 4) rfl rfl (by decide) ?_
  refine pw_istn E (pc' := 5) (ls' := [some (.ref 141), some (pw_i ((-1))), some (pw_i 8)]) rfl rfl rfl rfl ?_
  have L5 : ∀ (n5 : Nat) (k5_1 : Int) (k5_2 : Int), (-1) ≤ k5_1 → k5_1 ≤ 9 → 8 ≤ k5_2 → k5_2 ≤ 18 → k5_1 < 0 ∨ (0 ≤ k5_1 ∧ k5_1 ≤ 9 ∧ pw_g h 127 (pw_g h 125 7).toNat = 1) → (18 - k5_2).toNat = n5 → pw X d h 253 5 [some (.ref 141), some (pw_i k5_1), some (pw_i k5_2)] [] (fun h' v => h = h' ∧ ∃ a : Int, v = .inl (some (pw_i a)) ∧ (-1) ≤ a ∧ a ≤ 9 ∧ (a < 0 ∨ (0 ≤ a ∧ a ≤ 9 ∧ pw_g h 127 (pw_g h 125 7).toNat = 1))) := by
    intro n5
    induction n5 using Nat.strongRecOn with
    | ind n5 ih5 =>
      intro k5_1 k5_2 k5_1a k5_1b k5_2a k5_2b hx5_0 hm5
      refine pw_ld E (pc' := 6) (st' := [pw_i k5_2]) rfl (fun _ => rfl) ?_
      refine pw_bip E (pc' := 8) rfl rfl (by decide) ?_
      refine pw_if2 E (pc' := 41) rfl (by decide) (by omega) (by omega) (by decide) (by decide) ?_ ?_
      · intro hc1
        change (18 : Int) ≤ k5_2 at hc1
        refine pw_ld E (pc' := 42) (st' := [pw_i 0]) rfl (fun _ => rfl) ?_
        refine pw_istn E (pc' := 43) (ls' := [some (.ref 141), some (pw_i k5_1), some (pw_i 0)]) rfl rfl rfl rfl ?_
        have L43 : ∀ (n43 : Nat) (k43_1 : Int) (k43_2 : Int), (-1) ≤ k43_1 → k43_1 ≤ 9 → 0 ≤ k43_2 → k43_2 ≤ 9 → k43_1 < 0 ∨ (0 ≤ k43_1 ∧ k43_1 ≤ 9 ∧ pw_g h 127 (pw_g h 125 7).toNat = 1) → (9 - k43_2).toNat = n43 → pw X d h 253 43 [some (.ref 141), some (pw_i k43_1), some (pw_i k43_2)] [] (fun h' v => h = h' ∧ ∃ a : Int, v = .inl (some (pw_i a)) ∧ (-1) ≤ a ∧ a ≤ 9 ∧ (a < 0 ∨ (0 ≤ a ∧ a ≤ 9 ∧ pw_g h 127 (pw_g h 125 7).toNat = 1))) := by
          intro n43
          induction n43 using Nat.strongRecOn with
          | ind n43 ih43 =>
            intro k43_1 k43_2 k43_1a k43_1b k43_2a k43_2b hx43_0 hm43
            refine pw_ld E (pc' := 44) (st' := [pw_i k43_2]) rfl (fun _ => rfl) ?_
            refine pw_bip E (pc' := 46) rfl rfl (by decide) ?_
            refine pw_if2 E (pc' := 81) rfl (by decide) (by omega) (by omega) (by decide) (by decide) ?_ ?_
            · intro hc2
              change (9 : Int) ≤ k43_2 at hc2
              refine pw_ld E (pc' := 82) (st' := [pw_i k43_1]) rfl (fun _ => rfl) ?_
              refine pw_iret E rfl ?_
              exact ⟨rfl, ⟨_, rfl, by omega, by omega, by omega⟩⟩
            · intro hc3
              change ¬ ((9 : Int) ≤ k43_2) at hc3
              refine pw_ld E (pc' := 50) (st' := [.ref 141]) rfl (fun _ => rfl) ?_
              refine pw_getI2 I E (c := 125) (k := 45) (pc' := 53) rfl rfl rfl rfl rfl rfl (fun hf4a hf4b => ?_)
              refine pw_if E (pc' := 81) rfl (by decide) (by omega) (by omega) ?_ ?_
              · intro hc5
                change pw_g h 125 45 = (0 : Int) at hc5
                refine pw_ld E (pc' := 82) (st' := [pw_i k43_1]) rfl (fun _ => rfl) ?_
                refine pw_iret E rfl ?_
                exact ⟨rfl, ⟨_, rfl, by omega, by omega, by omega⟩⟩
              · intro hc6
                change ¬ (pw_g h 125 45 = (0 : Int)) at hc6
                refine pw_ld E (pc' := 57) (st' := [.ref 141]) rfl (fun _ => rfl) ?_
                refine pw_ld E (pc' := 58) (st' := [.ref 141, .ref 141]) rfl (fun _ => rfl) ?_
                refine pw_getR (b := 164) I E (c := 125) (k := 35) (pc' := 61) rfl rfl rfl rfl rfl rfl rfl ?_
                refine pw_ld E (pc' := 62) (st' := [pw_i k43_2, .ref 164, .ref 141]) rfl (fun _ => rfl) ?_
                refine pw_ald2 I E (c := 148) (pc' := 63) rfl rfl rfl (by decide) rfl (by decide) (by omega) (by omega) rfl (fun hf7a hf7b => ?_)
                obtain ⟨f8l, f8h, -⟩ := pw_obj (c := 125) I rfl
                refine pw_call (m' := 244) (As := [.ref 141, pw_i (pw_g h 148 (k43_2.toNat))]) (rest := []) (ls'' := [some (.ref 141), some (pw_i (pw_g h 148 (k43_2.toNat)))]) (Nat.le_trans (by decide) hd) E rfl (fun _ => pw_iV rfl rfl rfl rfl (pw_cellI f8h rfl)) (rfl : pm_ent 244 = some (2, 2, 12, 1, pmc_244)) rfl rfl (cm_244 (pw_dp hd (by decide)) I (pw_g h 148 (k43_2.toNat)) (by omega) (by omega)) ?_
                rintro u10 v9 ⟨rfl, x11, rfl, hx11a, hx11b, hx11r⟩
                refine ⟨_, rfl, ?_⟩
                show pw X d h 253 66 [some (.ref 141), some (pw_i k43_1), some (pw_i k43_2)] [pw_i x11] _
                change x11 = pw_wd h (pw_g h 148 (k43_2.toNat)) ∧ (x11 = 1 → pw_g h 125 8 = 0 ∧ pw_g h 127 (pw_g h 125 7).toNat = 1) at hx11r
                rcases (by omega : x11 = 1 ∨ x11 = 0) with hb12 | hb12
                · skip
                  refine pw_if E (pc' := 73) rfl (by decide) (by omega) (by omega) ?_ ?_
                  · intro hc13
                    change x11 = (0 : Int) at hc13
                    exfalso; omega
                  · intro hc14
                    change ¬ (x11 = (0 : Int)) at hc14
                    refine pw_ld E (pc' := 70) (st' := [pw_i k43_2]) rfl (fun _ => rfl) ?_
                    refine pw_goto E (pc' := 74) rfl (by decide) ?_
                    refine pw_istn E (pc' := 75) (ls' := [some (.ref 141), some (pw_i k43_2), some (pw_i k43_2)]) rfl rfl rfl rfl ?_
                    refine pw_inc E (pc' := 78) (ls' := [some (.ref 141), some (pw_i k43_2), some (pw_i (k43_2 + 1))]) rfl rfl rfl rfl ?_
                    refine pw_goto E (pc' := 43) rfl (by decide) ?_
                    exact ih43 _ (by omega) (k43_2) (k43_2 + 1)  (by omega) (by omega) (by omega) (by omega) (by omega) rfl
                · skip
                  refine pw_if E (pc' := 73) rfl (by decide) (by omega) (by omega) ?_ ?_
                  · intro hc16
                    change x11 = (0 : Int) at hc16
                    refine pw_ld E (pc' := 74) (st' := [pw_i k43_1]) rfl (fun _ => rfl) ?_
                    refine pw_istn E (pc' := 75) (ls' := [some (.ref 141), some (pw_i k43_1), some (pw_i k43_2)]) rfl rfl rfl rfl ?_
                    refine pw_inc E (pc' := 78) (ls' := [some (.ref 141), some (pw_i k43_1), some (pw_i (k43_2 + 1))]) rfl rfl rfl rfl ?_
                    refine pw_goto E (pc' := 43) rfl (by decide) ?_
                    exact ih43 _ (by omega) (k43_1) (k43_2 + 1)  (by omega) (by omega) (by omega) (by omega) (by omega) rfl
                  · intro hc17
                    change ¬ (x11 = (0 : Int)) at hc17
                    exfalso; omega
        exact L43 _ (k5_1) (0)  (by omega) (by omega) (by omega) (by omega) (by omega) rfl
      · intro hc18
        change ¬ ((18 : Int) ≤ k5_2) at hc18
        refine pw_ld E (pc' := 12) (st' := [.ref 141]) rfl (fun _ => rfl) ?_
        refine pw_getI2 I E (c := 125) (k := 45) (pc' := 15) rfl rfl rfl rfl rfl rfl (fun hf19a hf19b => ?_)
        refine pw_if E (pc' := 41) rfl (by decide) (by omega) (by omega) ?_ ?_
        · intro hc20
          change pw_g h 125 45 ≠ (0 : Int) at hc20
          refine pw_ld E (pc' := 42) (st' := [pw_i 0]) rfl (fun _ => rfl) ?_
          refine pw_istn E (pc' := 43) (ls' := [some (.ref 141), some (pw_i k5_1), some (pw_i 0)]) rfl rfl rfl rfl ?_
          have L43 : ∀ (n43 : Nat) (k43_1 : Int) (k43_2 : Int), (-1) ≤ k43_1 → k43_1 ≤ 9 → 0 ≤ k43_2 → k43_2 ≤ 9 → k43_1 < 0 ∨ (0 ≤ k43_1 ∧ k43_1 ≤ 9 ∧ pw_g h 127 (pw_g h 125 7).toNat = 1) → (9 - k43_2).toNat = n43 → pw X d h 253 43 [some (.ref 141), some (pw_i k43_1), some (pw_i k43_2)] [] (fun h' v => h = h' ∧ ∃ a : Int, v = .inl (some (pw_i a)) ∧ (-1) ≤ a ∧ a ≤ 9 ∧ (a < 0 ∨ (0 ≤ a ∧ a ≤ 9 ∧ pw_g h 127 (pw_g h 125 7).toNat = 1))) := by
            intro n43
            induction n43 using Nat.strongRecOn with
            | ind n43 ih43 =>
              intro k43_1 k43_2 k43_1a k43_1b k43_2a k43_2b hx43_0 hm43
              refine pw_ld E (pc' := 44) (st' := [pw_i k43_2]) rfl (fun _ => rfl) ?_
              refine pw_bip E (pc' := 46) rfl rfl (by decide) ?_
              refine pw_if2 E (pc' := 81) rfl (by decide) (by omega) (by omega) (by decide) (by decide) ?_ ?_
              · intro hc21
                change (9 : Int) ≤ k43_2 at hc21
                refine pw_ld E (pc' := 82) (st' := [pw_i k43_1]) rfl (fun _ => rfl) ?_
                refine pw_iret E rfl ?_
                exact ⟨rfl, ⟨_, rfl, by omega, by omega, by omega⟩⟩
              · intro hc22
                change ¬ ((9 : Int) ≤ k43_2) at hc22
                refine pw_ld E (pc' := 50) (st' := [.ref 141]) rfl (fun _ => rfl) ?_
                refine pw_getI2 I E (c := 125) (k := 45) (pc' := 53) rfl rfl rfl rfl rfl rfl (fun hf23a hf23b => ?_)
                refine pw_if E (pc' := 81) rfl (by decide) (by omega) (by omega) ?_ ?_
                · intro hc24
                  change pw_g h 125 45 = (0 : Int) at hc24
                  exfalso; omega
                · intro hc25
                  change ¬ (pw_g h 125 45 = (0 : Int)) at hc25
                  refine pw_ld E (pc' := 57) (st' := [.ref 141]) rfl (fun _ => rfl) ?_
                  refine pw_ld E (pc' := 58) (st' := [.ref 141, .ref 141]) rfl (fun _ => rfl) ?_
                  refine pw_getR (b := 164) I E (c := 125) (k := 35) (pc' := 61) rfl rfl rfl rfl rfl rfl rfl ?_
                  refine pw_ld E (pc' := 62) (st' := [pw_i k43_2, .ref 164, .ref 141]) rfl (fun _ => rfl) ?_
                  refine pw_ald2 I E (c := 148) (pc' := 63) rfl rfl rfl (by decide) rfl (by decide) (by omega) (by omega) rfl (fun hf26a hf26b => ?_)
                  obtain ⟨f27l, f27h, -⟩ := pw_obj (c := 125) I rfl
                  refine pw_call (m' := 244) (As := [.ref 141, pw_i (pw_g h 148 (k43_2.toNat))]) (rest := []) (ls'' := [some (.ref 141), some (pw_i (pw_g h 148 (k43_2.toNat)))]) (Nat.le_trans (by decide) hd) E rfl (fun _ => pw_iV rfl rfl rfl rfl (pw_cellI f27h rfl)) (rfl : pm_ent 244 = some (2, 2, 12, 1, pmc_244)) rfl rfl (cm_244 (pw_dp hd (by decide)) I (pw_g h 148 (k43_2.toNat)) (by omega) (by omega)) ?_
                  rintro u29 v28 ⟨rfl, x30, rfl, hx30a, hx30b, hx30r⟩
                  refine ⟨_, rfl, ?_⟩
                  show pw X d h 253 66 [some (.ref 141), some (pw_i k43_1), some (pw_i k43_2)] [pw_i x30] _
                  change x30 = pw_wd h (pw_g h 148 (k43_2.toNat)) ∧ (x30 = 1 → pw_g h 125 8 = 0 ∧ pw_g h 127 (pw_g h 125 7).toNat = 1) at hx30r
                  rcases (by omega : x30 = 1 ∨ x30 = 0) with hb31 | hb31
                  · skip
                    refine pw_if E (pc' := 73) rfl (by decide) (by omega) (by omega) ?_ ?_
                    · intro hc32
                      change x30 = (0 : Int) at hc32
                      exfalso; omega
                    · intro hc33
                      change ¬ (x30 = (0 : Int)) at hc33
                      refine pw_ld E (pc' := 70) (st' := [pw_i k43_2]) rfl (fun _ => rfl) ?_
                      refine pw_goto E (pc' := 74) rfl (by decide) ?_
                      refine pw_istn E (pc' := 75) (ls' := [some (.ref 141), some (pw_i k43_2), some (pw_i k43_2)]) rfl rfl rfl rfl ?_
                      refine pw_inc E (pc' := 78) (ls' := [some (.ref 141), some (pw_i k43_2), some (pw_i (k43_2 + 1))]) rfl rfl rfl rfl ?_
                      refine pw_goto E (pc' := 43) rfl (by decide) ?_
                      exact ih43 _ (by omega) (k43_2) (k43_2 + 1)  (by omega) (by omega) (by omega) (by omega) (by omega) rfl
                  · skip
                    refine pw_if E (pc' := 73) rfl (by decide) (by omega) (by omega) ?_ ?_
                    · intro hc35
                      change x30 = (0 : Int) at hc35
                      refine pw_ld E (pc' := 74) (st' := [pw_i k43_1]) rfl (fun _ => rfl) ?_
                      refine pw_istn E (pc' := 75) (ls' := [some (.ref 141), some (pw_i k43_1), some (pw_i k43_2)]) rfl rfl rfl rfl ?_
                      refine pw_inc E (pc' := 78) (ls' := [some (.ref 141), some (pw_i k43_1), some (pw_i (k43_2 + 1))]) rfl rfl rfl rfl ?_
                      refine pw_goto E (pc' := 43) rfl (by decide) ?_
                      exact ih43 _ (by omega) (k43_1) (k43_2 + 1)  (by omega) (by omega) (by omega) (by omega) (by omega) rfl
                    · intro hc36
                      change ¬ (x30 = (0 : Int)) at hc36
                      exfalso; omega
          exact L43 _ (k5_1) (0)  (by omega) (by omega) (by omega) (by omega) (by omega) rfl
        · intro hc37
          change ¬ (pw_g h 125 45 ≠ (0 : Int)) at hc37
          refine pw_ld E (pc' := 19) (st' := [.ref 141]) rfl (fun _ => rfl) ?_
          refine pw_ld E (pc' := 20) (st' := [pw_i k5_2, .ref 141]) rfl (fun _ => rfl) ?_
          obtain ⟨f38l, f38h, -⟩ := pw_obj (c := 125) I rfl
          refine pw_call (m' := 244) (As := [.ref 141, pw_i k5_2]) (rest := []) (ls'' := [some (.ref 141), some (pw_i k5_2)]) (Nat.le_trans (by decide) hd) E rfl (fun _ => pw_iV rfl rfl rfl rfl (pw_cellI f38h rfl)) (rfl : pm_ent 244 = some (2, 2, 12, 1, pmc_244)) rfl rfl (cm_244 (pw_dp hd (by decide)) I (k5_2) (by omega) (by omega)) ?_
          rintro u40 v39 ⟨rfl, x41, rfl, hx41a, hx41b, hx41r⟩
          refine ⟨_, rfl, ?_⟩
          show pw X d h 253 23 [some (.ref 141), some (pw_i k5_1), some (pw_i k5_2)] [pw_i x41] _
          change x41 = pw_wd h k5_2 ∧ (x41 = 1 → pw_g h 125 8 = 0 ∧ pw_g h 127 (pw_g h 125 7).toNat = 1) at hx41r
          rcases (by omega : x41 = 1 ∨ x41 = 0) with hb42 | hb42
          · skip
            refine pw_if E (pc' := 33) rfl (by decide) (by omega) (by omega) ?_ ?_
            · intro hc43
              change x41 = (0 : Int) at hc43
              exfalso; omega
            · intro hc44
              change ¬ (x41 = (0 : Int)) at hc44
              refine pw_ld E (pc' := 27) (st' := [pw_i k5_2]) rfl (fun _ => rfl) ?_
              refine pw_bip E (pc' := 29) rfl rfl (by decide) ?_
              refine pw_sub E (pc' := 30) rfl rfl ?_
              refine pw_goto E (pc' := 34) rfl (by decide) ?_
              refine pw_istn E (pc' := 35) (ls' := [some (.ref 141), some (pw_i (k5_2 - 8)), some (pw_i k5_2)]) rfl rfl rfl rfl ?_
              refine pw_inc E (pc' := 38) (ls' := [some (.ref 141), some (pw_i (k5_2 - 8)), some (pw_i (k5_2 + 1))]) rfl rfl rfl rfl ?_
              refine pw_goto E (pc' := 5) rfl (by decide) ?_
              exact ih5 _ (by omega) (k5_2 - 8) (k5_2 + 1)  (by omega) (by omega) (by omega) (by omega) (by omega) rfl
          · skip
            refine pw_if E (pc' := 33) rfl (by decide) (by omega) (by omega) ?_ ?_
            · intro hc46
              change x41 = (0 : Int) at hc46
              refine pw_ld E (pc' := 34) (st' := [pw_i k5_1]) rfl (fun _ => rfl) ?_
              refine pw_istn E (pc' := 35) (ls' := [some (.ref 141), some (pw_i k5_1), some (pw_i k5_2)]) rfl rfl rfl rfl ?_
              refine pw_inc E (pc' := 38) (ls' := [some (.ref 141), some (pw_i k5_1), some (pw_i (k5_2 + 1))]) rfl rfl rfl rfl ?_
              refine pw_goto E (pc' := 5) rfl (by decide) ?_
              exact ih5 _ (by omega) (k5_1) (k5_2 + 1)  (by omega) (by omega) (by omega) (by omega) (by omega) rfl
            · intro hc47
              change ¬ (x41 = (0 : Int)) at hc47
              exfalso; omega
  exact L5 _ ((-1)) (8)  (by omega) (by omega) (by omega) (by omega) (by omega) rfl
set_option maxHeartbeats 4000000 in
theorem cm_245 {X : List (Nat × List Value)} {d : Nat} {h : pm_H} (hd : 1 ≤ d) (I : pw_I h) {n : Nat} (A : pw_A n h) (wh : Int) (hwh1 : 1 ≤ wh) (hwh2 : wh ≤ 5) : pw X d h 245 0 [some (.ref 141), some (pw_i wh)] [] (fun h' v => pw_I h' ∧ pw_E [125] h h' ∧ (pw_A n h' ∧ pw_R 0 0 0 h h' ∧ 1 ≤ pw_g h' 125 8) ∧ (v = .inl none)) := by
  have E : pm_ent 245 = some (2, 2, 12, 4, pmc_245) := rfl
  have E0 : pw_E [125] h h := pw_E.rf _ _
  have R0 : pw_R 0 0 0 h h := pw_R.rf A.2.2.2.2.2
  have hn1 : n ≤ 1000 := A.1
  have hA1 : pw_g h 125 7 ≤ n ∧ 0 ≤ pw_g h 125 8 ∧ 0 ≤ pw_g h 125 7 ∧ 0 ≤ pw_g h 125 32 := A.2.2
  refine pw_ld E (pc' := 1) (st' := [.ref 141]) rfl (fun _ => rfl) ?_
  refine pw_getI2 I E (c := 125) (k := 8) (pc' := 4) rfl rfl rfl rfl rfl rfl (fun hf2a hf2b => ?_)
  refine pw_if E (pc' := 25) rfl (by decide) (by omega) (by omega) ?_ ?_
  · intro hc3
    change pw_g h 125 8 ≠ (0 : Int) at hc3
    refine pw_vret E rfl ?_
    exact ⟨I, E0, ⟨A, R0, by omega⟩, rfl⟩
  · intro hc4
    change ¬ (pw_g h 125 8 ≠ (0 : Int)) at hc4
    refine pw_ld E (pc' := 8) (st' := [.ref 141]) rfl (fun _ => rfl) ?_
    refine pw_ld E (pc' := 9) (st' := [pw_i wh, .ref 141]) rfl (fun _ => rfl) ?_
    refine pw_bip E (pc' := 11) rfl rfl (by decide) ?_
    refine pw_ld E (pc' := 12) (st' := [.ref 141, pw_i 16, pw_i wh, .ref 141]) rfl (fun _ => rfl) ?_
    refine pw_getR (b := 144) I E (c := 125) (k := 5) (pc' := 15) rfl rfl rfl rfl rfl rfl rfl ?_
    refine pw_ld E (pc' := 16) (st' := [.ref 141, .ref 144, pw_i 16, pw_i wh, .ref 141]) rfl (fun _ => rfl) ?_
    refine pw_getI2 I E (c := 125) (k := 7) (pc' := 19) rfl rfl rfl rfl rfl rfl (fun hf5a hf5b => ?_)
    refine pw_ald2 I E (c := 128) (pc' := 20) rfl rfl rfl (by decide) rfl (by decide) (by omega) (by omega) rfl (fun hf6a hf6b => ?_)
    refine pw_mul E (pc' := 21) rfl rfl ?_
    refine pw_add E (pc' := 22) rfl rfl ?_
    refine pw_putI I E (c := 125) (k := 8) (pc' := 25) rfl rfl rfl rfl (by omega) (by omega) (by omega) (by omega) rfl rfl ?_
    intro h7I h7E
    generalize h7w : pw_w h 125 8 (pw_i (wh + (16 * (pw_g h 128 ((pw_g h 125 7).toNat))))) = h7 at h7I h7E ⊢
    have h7F := E0.tr (h7E.wk (W' := [125]) (by first | rfl | simp))
    refine pw_vret E rfl ?_
    have e8 : pw_g h7 125 8 = wh + (16 * (pw_g h 128 ((pw_g h 125 7).toNat))) := by rw [← h7w]; exact pw_g_eq (c := 125) (k := 8) I rfl rfl (by omega) (by omega)
    have e7 : pw_g h7 125 7 = pw_g h 125 7 := by rw [← h7w]; exact pw_g_ne (by omega)
    have e9 : pw_g h7 125 32 = pw_g h 125 32 := by rw [← h7w]; exact pw_g_ne (by omega)
    exact ⟨h7I, h7F, ⟨⟨hn1, by rw [← h7w, pw_g_ne (by omega)]; exact A.2.1, by omega, by omega, by omega, by omega⟩, pw_R.same (by decide) (by omega) (by omega) (by omega) e9 (fun j => by rw [← h7w]; exact pw_g_ne (by omega)) (fun j => by rw [← h7w]; exact pw_g_ne (by omega)), by omega⟩, rfl⟩
set_option maxHeartbeats 4000000 in
theorem cm_247 {X : List (Nat × List Value)} {d : Nat} {h : pm_H} (hd : 2 ≤ d) (I : pw_I h) {n : Nat} (A : pw_A n h) (wd : Int) (hwd1 : 0 ≤ wd) (hwd2 : wd ≤ 27) : pw X d h 247 0 [some (.ref 141), some (pw_i wd), none] [] (fun h' v => ∃ a : Int, v = .inl (some (pw_i a)) ∧ a = pw_wd h wd ∧ ((a = 0 ∧ h = h') ∨ (a = 1 ∧ pw_I h' ∧ pw_E [125] h h' ∧ pw_A n h' ∧ pw_R 1 0 0 h h' ∧ pw_g h' 125 7 = pw_g h 125 7 + 1))) := by
  have E : pm_ent 247 = some (2, 3, 12, 1, pmc_247) := rfl
  have E0 : pw_E [125] h h := pw_E.rf _ _
  have R0 : pw_R 0 0 0 h h := pw_R.rf A.2.2.2.2.2
  have hn1 : n ≤ 1000 := A.1
  have hA1 : pw_g h 125 7 ≤ n ∧ 0 ≤ pw_g h 125 8 ∧ 0 ≤ pw_g h 125 7 ∧ 0 ≤ pw_g h 125 32 := A.2.2
  refine pw_ld E (pc' := 1) (st' := [.ref 141]) rfl (fun _ => rfl) ?_
  refine pw_ld E (pc' := 2) (st' := [pw_i wd, .ref 141]) rfl (fun _ => rfl) ?_
  obtain ⟨f2l, f2h, -⟩ := pw_obj (c := 125) I rfl
  refine pw_call (m' := 244) (As := [.ref 141, pw_i wd]) (rest := []) (ls'' := [some (.ref 141), some (pw_i wd)]) (Nat.le_trans (by decide) hd) E rfl (fun _ => pw_iV rfl rfl rfl rfl (pw_cellI f2h rfl)) (rfl : pm_ent 244 = some (2, 2, 12, 1, pmc_244)) rfl rfl (cm_244 (pw_dp hd (by decide)) I (wd) (by omega) (by omega)) ?_
  rintro u4 v3 ⟨rfl, x5, rfl, hx5a, hx5b, hx5r⟩
  refine ⟨_, rfl, ?_⟩
  show pw X d h 247 5 [some (.ref 141), some (pw_i wd), none] [pw_i x5] _
  change x5 = pw_wd h wd ∧ (x5 = 1 → pw_g h 125 8 = 0 ∧ pw_g h 127 (pw_g h 125 7).toNat = 1) at hx5r
  refine pw_istn E (pc' := 6) (ls' := [some (.ref 141), some (pw_i wd), some (pw_i x5)]) rfl rfl rfl rfl ?_
  refine pw_ld E (pc' := 7) (st' := [.ref 141]) rfl (fun _ => rfl) ?_
  refine pw_ld E (pc' := 8) (st' := [.ref 141, .ref 141]) rfl (fun _ => rfl) ?_
  refine pw_getI2 I E (c := 125) (k := 7) (pc' := 11) rfl rfl rfl rfl rfl rfl (fun hf6a hf6b => ?_)
  refine pw_ld E (pc' := 12) (st' := [pw_i x5, pw_i (pw_g h 125 7), .ref 141]) rfl (fun _ => rfl) ?_
  refine pw_if E (pc' := 19) rfl (by decide) (by omega) (by omega) ?_ ?_
  · intro hc7
    change x5 = (0 : Int) at hc7
    refine pw_ld E (pc' := 20) (st' := [pw_i 0, pw_i (pw_g h 125 7), .ref 141]) rfl (fun _ => rfl) ?_
    refine pw_add E (pc' := 21) rfl rfl ?_
    have hlt8 : (pw_g h 125 7) + 0 ≤ 1001 ∧ (pw_g h 125 7) + 0 ≤ n := by first | omega | (have := pw_A.lt A (by omega); omega) | (have := pw_A.lt A (by omega); omega)
    refine pw_putI I E (c := 125) (k := 7) (pc' := 24) rfl rfl rfl rfl (by omega) (by omega) (by omega) (by omega) rfl rfl ?_
    intro h9I h9E
    generalize h9w : pw_w h 125 7 (pw_i ((pw_g h 125 7) + 0)) = h9 at h9I h9E ⊢
    have h9F := E0.tr (h9E.wk (W' := [125]) (by first | rfl | simp))
    refine pw_ld E (pc' := 25) (st' := [pw_i x5]) rfl (fun _ => rfl) ?_
    refine pw_zret E rfl (by omega) ?_
    exact ⟨_, rfl, by omega, Or.inl ⟨by omega, by symm; rw [← h9w, show (pw_g h 125 7) + 0 = pw_g h 125 7 by omega]; exact pw_w_id (pw_atI I rfl rfl)⟩⟩
  · intro hc10
    change ¬ (x5 = (0 : Int)) at hc10
    refine pw_ld E (pc' := 16) (st' := [pw_i 1, pw_i (pw_g h 125 7), .ref 141]) rfl (fun _ => rfl) ?_
    refine pw_goto E (pc' := 20) rfl (by decide) ?_
    refine pw_add E (pc' := 21) rfl rfl ?_
    have hlt11 : (pw_g h 125 7) + 1 ≤ 1001 ∧ (pw_g h 125 7) + 1 ≤ n := by first | omega | (have := pw_A.lt A (by omega); omega) | (have := pw_A.lt A (by omega); omega)
    refine pw_putI I E (c := 125) (k := 7) (pc' := 24) rfl rfl rfl rfl (by omega) (by omega) (by omega) (by omega) rfl rfl ?_
    intro h12I h12E
    generalize h12w : pw_w h 125 7 (pw_i ((pw_g h 125 7) + 1)) = h12 at h12I h12E ⊢
    have h12F := E0.tr (h12E.wk (W' := [125]) (by first | rfl | simp))
    refine pw_ld E (pc' := 25) (st' := [pw_i x5]) rfl (fun _ => rfl) ?_
    refine pw_zret E rfl (by omega) ?_
    have e7 : pw_g h12 125 7 = pw_g h 125 7 + 1 := by rw [← h12w]; exact pw_g_eq (c := 125) (k := 7) I rfl rfl (by omega) (by omega)
    have e8 : pw_g h12 125 8 = pw_g h 125 8 := by rw [← h12w]; exact pw_g_ne (by omega)
    have e9 : pw_g h12 125 32 = pw_g h 125 32 := by rw [← h12w]; exact pw_g_ne (by omega)
    exact ⟨_, rfl, by omega, Or.inr ⟨by omega, h12I, h12F, ⟨hn1, by rw [← h12w, pw_g_ne (by omega)]; exact A.2.1, by omega, by omega, by omega, by omega⟩, pw_R.same (by decide) (by omega) (by omega) e7 e9 (fun j => by rw [← h12w]; exact pw_g_ne (by omega)) (fun j => by rw [← h12w]; exact pw_g_ne (by omega)), e7⟩⟩
set_option maxHeartbeats 4000000 in
theorem cm_256 {X : List (Nat × List Value)} {d : Nat} {h : pm_H} (hd : 2 ≤ d) (I : pw_I h) {n : Nat} (A : pw_A n h) (ch : Int) (hch1 : (-2147483648) ≤ ch) (hch2 : ch ≤ 2147483647) : pw X d h 256 0 [some (.ref 141), some (pw_i ch), none] [] (fun h' v => ∃ a : Int, v = .inl (some (pw_i a)) ∧ a = pw_sg h ch ∧ ((a = 0 ∧ h = h') ∨ (a = 1 ∧ pw_I h' ∧ pw_E [125] h h' ∧ pw_A n h' ∧ pw_R 1 0 0 h h' ∧ pw_g h' 125 7 = pw_g h 125 7 + 1))) := by
  have E : pm_ent 256 = some (2, 3, 12, 1, pmc_256) := rfl
  have E0 : pw_E [125] h h := pw_E.rf _ _
  have R0 : pw_R 0 0 0 h h := pw_R.rf A.2.2.2.2.2
  have hn1 : n ≤ 1000 := A.1
  have hA1 : pw_g h 125 7 ≤ n ∧ 0 ≤ pw_g h 125 8 ∧ 0 ≤ pw_g h 125 7 ∧ 0 ≤ pw_g h 125 32 := A.2.2
  refine pw_ld E (pc' := 1) (st' := [.ref 141]) rfl (fun _ => rfl) ?_
  refine pw_ld E (pc' := 2) (st' := [pw_i ch, .ref 141]) rfl (fun _ => rfl) ?_
  obtain ⟨f2l, f2h, -⟩ := pw_obj (c := 125) I rfl
  refine pw_call (m' := 254) (As := [.ref 141, pw_i ch]) (rest := []) (ls'' := [some (.ref 141), some (pw_i ch)]) (Nat.le_trans (by decide) hd) E rfl (fun _ => pw_iV rfl rfl rfl rfl (pw_cellI f2h rfl)) (rfl : pm_ent 254 = some (2, 2, 12, 1, pmc_254)) rfl rfl (cm_254 (pw_dp hd (by decide)) I (ch) (by omega) (by omega)) ?_
  rintro u4 v3 ⟨rfl, x5, rfl, hx5a, hx5b, hx5r⟩
  refine ⟨_, rfl, ?_⟩
  show pw X d h 256 5 [some (.ref 141), some (pw_i ch), none] [pw_i x5] _
  change x5 = pw_sg h ch ∧ (x5 = 1 → pw_g h 125 8 = 0 ∧ pw_g h 127 (pw_g h 125 7).toNat = 3) at hx5r
  refine pw_istn E (pc' := 6) (ls' := [some (.ref 141), some (pw_i ch), some (pw_i x5)]) rfl rfl rfl rfl ?_
  refine pw_ld E (pc' := 7) (st' := [.ref 141]) rfl (fun _ => rfl) ?_
  refine pw_ld E (pc' := 8) (st' := [.ref 141, .ref 141]) rfl (fun _ => rfl) ?_
  refine pw_getI2 I E (c := 125) (k := 7) (pc' := 11) rfl rfl rfl rfl rfl rfl (fun hf6a hf6b => ?_)
  refine pw_ld E (pc' := 12) (st' := [pw_i x5, pw_i (pw_g h 125 7), .ref 141]) rfl (fun _ => rfl) ?_
  refine pw_if E (pc' := 19) rfl (by decide) (by omega) (by omega) ?_ ?_
  · intro hc7
    change x5 = (0 : Int) at hc7
    refine pw_ld E (pc' := 20) (st' := [pw_i 0, pw_i (pw_g h 125 7), .ref 141]) rfl (fun _ => rfl) ?_
    refine pw_add E (pc' := 21) rfl rfl ?_
    have hlt8 : (pw_g h 125 7) + 0 ≤ 1001 ∧ (pw_g h 125 7) + 0 ≤ n := by first | omega | (have := pw_A.lt A (by omega); omega) | (have := pw_A.lt A (by omega); omega)
    refine pw_putI I E (c := 125) (k := 7) (pc' := 24) rfl rfl rfl rfl (by omega) (by omega) (by omega) (by omega) rfl rfl ?_
    intro h9I h9E
    generalize h9w : pw_w h 125 7 (pw_i ((pw_g h 125 7) + 0)) = h9 at h9I h9E ⊢
    have h9F := E0.tr (h9E.wk (W' := [125]) (by first | rfl | simp))
    refine pw_ld E (pc' := 25) (st' := [pw_i x5]) rfl (fun _ => rfl) ?_
    refine pw_zret E rfl (by omega) ?_
    exact ⟨_, rfl, by omega, Or.inl ⟨by omega, by symm; rw [← h9w, show (pw_g h 125 7) + 0 = pw_g h 125 7 by omega]; exact pw_w_id (pw_atI I rfl rfl)⟩⟩
  · intro hc10
    change ¬ (x5 = (0 : Int)) at hc10
    refine pw_ld E (pc' := 16) (st' := [pw_i 1, pw_i (pw_g h 125 7), .ref 141]) rfl (fun _ => rfl) ?_
    refine pw_goto E (pc' := 20) rfl (by decide) ?_
    refine pw_add E (pc' := 21) rfl rfl ?_
    have hlt11 : (pw_g h 125 7) + 1 ≤ 1001 ∧ (pw_g h 125 7) + 1 ≤ n := by first | omega | (have := pw_A.lt A (by omega); omega) | (have := pw_A.lt A (by omega); omega)
    refine pw_putI I E (c := 125) (k := 7) (pc' := 24) rfl rfl rfl rfl (by omega) (by omega) (by omega) (by omega) rfl rfl ?_
    intro h12I h12E
    generalize h12w : pw_w h 125 7 (pw_i ((pw_g h 125 7) + 1)) = h12 at h12I h12E ⊢
    have h12F := E0.tr (h12E.wk (W' := [125]) (by first | rfl | simp))
    refine pw_ld E (pc' := 25) (st' := [pw_i x5]) rfl (fun _ => rfl) ?_
    refine pw_zret E rfl (by omega) ?_
    have e7 : pw_g h12 125 7 = pw_g h 125 7 + 1 := by rw [← h12w]; exact pw_g_eq (c := 125) (k := 7) I rfl rfl (by omega) (by omega)
    have e8 : pw_g h12 125 8 = pw_g h 125 8 := by rw [← h12w]; exact pw_g_ne (by omega)
    have e9 : pw_g h12 125 32 = pw_g h 125 32 := by rw [← h12w]; exact pw_g_ne (by omega)
    exact ⟨_, rfl, by omega, Or.inr ⟨by omega, h12I, h12F, ⟨hn1, by rw [← h12w, pw_g_ne (by omega)]; exact A.2.1, by omega, by omega, by omega, by omega⟩, pw_R.same (by decide) (by omega) (by omega) e7 e9 (fun j => by rw [← h12w]; exact pw_g_ne (by omega)) (fun j => by rw [← h12w]; exact pw_g_ne (by omega)), e7⟩⟩
set_option maxHeartbeats 4000000 in
theorem cm_257 {X : List (Nat × List Value)} {d : Nat} {h : pm_H} (hd : 2 ≤ d) (I : pw_I h) {n : Nat} (A : pw_A n h) (ch : Int) (hch1 : (-2147483648) ≤ ch) (hch2 : ch ≤ 2147483647) : pw X d h 257 0 [some (.ref 141), some (pw_i ch)] [] (fun h' v => pw_I h' ∧ pw_E [125] h h' ∧ (pw_A n h' ∧ pw_R 0 0 0 h h') ∧ (v = .inl none)) := by
  have E : pm_ent 257 = some (2, 2, 12, 4, pmc_257) := rfl
  have E0 : pw_E [125] h h := pw_E.rf _ _
  have R0 : pw_R 0 0 0 h h := pw_R.rf A.2.2.2.2.2
  have hn1 : n ≤ 1000 := A.1
  have hA1 : pw_g h 125 7 ≤ n ∧ 0 ≤ pw_g h 125 8 ∧ 0 ≤ pw_g h 125 7 ∧ 0 ≤ pw_g h 125 32 := A.2.2
  refine pw_ld E (pc' := 1) (st' := [.ref 141]) rfl (fun _ => rfl) ?_
  refine pw_ld E (pc' := 2) (st' := [pw_i ch, .ref 141]) rfl (fun _ => rfl) ?_
  obtain ⟨f2l, f2h, -⟩ := pw_obj (c := 125) I rfl
  refine pw_call (m' := 254) (As := [.ref 141, pw_i ch]) (rest := []) (ls'' := [some (.ref 141), some (pw_i ch)]) (Nat.le_trans (by decide) hd) E rfl (fun _ => pw_iV rfl rfl rfl rfl (pw_cellI f2h rfl)) (rfl : pm_ent 254 = some (2, 2, 12, 1, pmc_254)) rfl rfl (cm_254 (pw_dp hd (by decide)) I (ch) (by omega) (by omega)) ?_
  rintro u4 v3 ⟨rfl, x5, rfl, hx5a, hx5b, hx5r⟩
  refine ⟨_, rfl, ?_⟩
  show pw X d h 257 5 [some (.ref 141), some (pw_i ch)] [pw_i x5] _
  change x5 = pw_sg h ch ∧ (x5 = 1 → pw_g h 125 8 = 0 ∧ pw_g h 127 (pw_g h 125 7).toNat = 3) at hx5r
  rcases (by omega : x5 = 1 ∨ x5 = 0) with hb6 | hb6
  · skip
    refine pw_if E (pc' := 21) rfl (by decide) (by omega) (by omega) ?_ ?_
    · intro hc7
      change x5 = (0 : Int) at hc7
      exfalso; omega
    · intro hc8
      change ¬ (x5 = (0 : Int)) at hc8
      refine pw_ld E (pc' := 9) (st' := [.ref 141]) rfl (fun _ => rfl) ?_
      refine pw_ld E (pc' := 10) (st' := [.ref 141, .ref 141]) rfl (fun _ => rfl) ?_
      refine pw_getI2 I E (c := 125) (k := 7) (pc' := 13) rfl rfl rfl rfl rfl rfl (fun hf9a hf9b => ?_)
      refine pw_ld E (pc' := 14) (st' := [pw_i 1, pw_i (pw_g h 125 7), .ref 141]) rfl (fun _ => rfl) ?_
      refine pw_add E (pc' := 15) rfl rfl ?_
      have hlt10 : (pw_g h 125 7) + 1 ≤ 1001 ∧ (pw_g h 125 7) + 1 ≤ n := by first | omega | (have := pw_A.lt A (by omega); omega) | (have := pw_A.lt A (by omega); omega)
      refine pw_putI I E (c := 125) (k := 7) (pc' := 18) rfl rfl rfl rfl (by omega) (by omega) (by omega) (by omega) rfl rfl ?_
      intro h11I h11E
      generalize h11w : pw_w h 125 7 (pw_i ((pw_g h 125 7) + 1)) = h11 at h11I h11E ⊢
      have h11F := E0.tr (h11E.wk (W' := [125]) (by first | rfl | simp))
      have h117 : pw_g h11 125 7 = pw_g h 125 7 + 1 := by rw [← h11w]; exact pw_g_eq (c := 125) (k := 7) I rfl rfl (by omega) (by omega)
      have h118 : pw_g h11 125 8 = pw_g h 125 8 := by rw [← h11w]; exact pw_g_ne (by omega)
      have h119 : pw_g h11 125 32 = pw_g h 125 32 := by rw [← h11w]; exact pw_g_ne (by omega)
      have h11A : pw_A n h11 := ⟨hn1, by rw [← h11w, pw_g_ne (by omega)]; exact A.2.1, by omega, by omega, by omega, by omega⟩
      have h11R : pw_R 1 0 0 h h11 := pw_R.same (by decide) (by omega) (by omega) h117 h119 (fun j => by rw [← h11w]; exact pw_g_ne (by omega)) (fun j => by rw [← h11w]; exact pw_g_ne (by omega))
      have R12 : pw_R 1 0 0 h h11 := R0.tr (h11R : pw_R 1 0 0 h h11) (by decide) (by decide) (by decide)
      have hA13 : pw_g h11 125 7 ≤ n ∧ 0 ≤ pw_g h11 125 8 ∧ 0 ≤ pw_g h11 125 7 ∧ 0 ≤ pw_g h11 125 32 := h11A.2.2
      have hA14 : pw_g h 125 7 - pw_g h 125 32 + 1 ≤ pw_g h11 125 7 - pw_g h11 125 32 := R12.1.2.2.2.1
      have hA15 : pw_g h 125 7 ≤ pw_g h11 125 7 := h11R.1.2.1
      have hA15z : pw_g h11 125 8 = 0 → pw_g h 125 8 = 0 := h11R.1.1
      refine pw_goto E (pc' := 26) rfl (by decide) ?_
      refine pw_vret E rfl ?_
      exact ⟨h11I, h11F, ⟨h11A, R12.wk (by decide)⟩, rfl⟩
  · skip
    refine pw_if E (pc' := 21) rfl (by decide) (by omega) (by omega) ?_ ?_
    · intro hc17
      change x5 = (0 : Int) at hc17
      refine pw_ld E (pc' := 22) (st' := [.ref 141]) rfl (fun _ => rfl) ?_
      refine pw_ld E (pc' := 23) (st' := [pw_i 1, .ref 141]) rfl (fun _ => rfl) ?_
      obtain ⟨f18l, f18h, -⟩ := pw_obj (c := 125) I rfl
      refine pw_call (m' := 245) (As := [.ref 141, pw_i 1]) (rest := []) (ls'' := [some (.ref 141), some (pw_i 1)]) (Nat.le_trans (by decide) hd) E rfl (fun _ => pw_iV rfl rfl rfl rfl (pw_cellI f18h rfl)) (rfl : pm_ent 245 = some (2, 2, 12, 4, pmc_245)) rfl rfl (cm_245 (pw_dp hd (by decide)) I A (1) (by omega) (by omega)) ?_
      rintro h19 v20 ⟨h19I, h19E, ⟨h19A, h19R, h19z⟩, rfl⟩
      refine ⟨_, rfl, ?_⟩
      have h19F := E0.tr (h19E.wk (W' := [125]) (by first | rfl | simp))
      show pw X d h19 257 26 [some (.ref 141), some (pw_i ch)] [] _
      change 1 ≤ pw_g h19 125 8 at h19z
      have R21 : pw_R 0 0 0 h h19 := R0.tr (h19R : pw_R 0 0 0 h h19) (by decide) (by decide) (by decide)
      have hA22 : pw_g h19 125 7 ≤ n ∧ 0 ≤ pw_g h19 125 8 ∧ 0 ≤ pw_g h19 125 7 ∧ 0 ≤ pw_g h19 125 32 := h19A.2.2
      have hA23 : pw_g h 125 7 - pw_g h 125 32 + 0 ≤ pw_g h19 125 7 - pw_g h19 125 32 := R21.1.2.2.2.1
      have hA24 : pw_g h 125 7 ≤ pw_g h19 125 7 := h19R.1.2.1
      have hA24z : pw_g h19 125 8 = 0 → pw_g h 125 8 = 0 := h19R.1.1
      refine pw_vret E rfl ?_
      exact ⟨h19I, h19F, ⟨h19A, R21.wk (by decide)⟩, rfl⟩
    · intro hc25
      change ¬ (x5 = (0 : Int)) at hc25
      exfalso; omega
set_option maxHeartbeats 4000000 in
theorem cm_246 {X : List (Nat × List Value)} {d : Nat} {h : pm_H} (hd : 3 ≤ d) (I : pw_I h) {n : Nat} (A : pw_A n h) (wd : Int) (hwd1 : 0 ≤ wd) (hwd2 : wd ≤ 27) : pw X d h 246 0 [some (.ref 141), some (pw_i wd)] [] (fun h' v => pw_I h' ∧ pw_E [125] h h' ∧ (pw_A n h' ∧ pw_R 0 0 0 h h') ∧ (v = .inl none)) := by
  have E : pm_ent 246 = some (2, 2, 12, 4, pmc_246) := rfl
  have E0 : pw_E [125] h h := pw_E.rf _ _
  have R0 : pw_R 0 0 0 h h := pw_R.rf A.2.2.2.2.2
  have hn1 : n ≤ 1000 := A.1
  have hA1 : pw_g h 125 7 ≤ n ∧ 0 ≤ pw_g h 125 8 ∧ 0 ≤ pw_g h 125 7 ∧ 0 ≤ pw_g h 125 32 := A.2.2
  refine pw_ld E (pc' := 1) (st' := [.ref 141]) rfl (fun _ => rfl) ?_
  refine pw_ld E (pc' := 2) (st' := [pw_i wd, .ref 141]) rfl (fun _ => rfl) ?_
  obtain ⟨f2l, f2h, -⟩ := pw_obj (c := 125) I rfl
  refine pw_call (m' := 247) (As := [.ref 141, pw_i wd]) (rest := []) (ls'' := [some (.ref 141), some (pw_i wd), none]) (Nat.le_trans (by decide) hd) E rfl (fun _ => pw_iV rfl rfl rfl rfl (pw_cellI f2h rfl)) (rfl : pm_ent 247 = some (2, 3, 12, 1, pmc_247)) rfl rfl (cm_247 (pw_dp hd (by decide)) I A (wd) (by omega) (by omega)) ?_
  rintro h3 v4 ⟨x5, rfl, x5a, ⟨x5b, h3c⟩ | ⟨x5b, h3I, h3E, h3A, h3R, h37⟩⟩
  · refine ⟨_, rfl, ?_⟩
    subst h3c
    change x5 = pw_wd h wd at x5a
    change x5 = 0 at x5b
    show pw X d h 246 5 [some (.ref 141), some (pw_i wd)] [pw_i x5] _
    refine pw_if E (pc' := 13) rfl (by decide) (by omega) (by omega) ?_ ?_
    · intro hc6
      change x5 ≠ (0 : Int) at hc6
      exfalso; omega
    · intro hc7
      change ¬ (x5 ≠ (0 : Int)) at hc7
      refine pw_ld E (pc' := 9) (st' := [.ref 141]) rfl (fun _ => rfl) ?_
      refine pw_ld E (pc' := 10) (st' := [pw_i 1, .ref 141]) rfl (fun _ => rfl) ?_
      obtain ⟨f8l, f8h, -⟩ := pw_obj (c := 125) I rfl
      refine pw_call (m' := 245) (As := [.ref 141, pw_i 1]) (rest := []) (ls'' := [some (.ref 141), some (pw_i 1)]) (Nat.le_trans (by decide) hd) E rfl (fun _ => pw_iV rfl rfl rfl rfl (pw_cellI f8h rfl)) (rfl : pm_ent 245 = some (2, 2, 12, 4, pmc_245)) rfl rfl (cm_245 (pw_dp hd (by decide)) I A (1) (by omega) (by omega)) ?_
      rintro h9 v10 ⟨h9I, h9E, ⟨h9A, h9R, h9z⟩, rfl⟩
      refine ⟨_, rfl, ?_⟩
      have h9F := E0.tr (h9E.wk (W' := [125]) (by first | rfl | simp))
      show pw X d h9 246 13 [some (.ref 141), some (pw_i wd)] [] _
      change 1 ≤ pw_g h9 125 8 at h9z
      have R11 : pw_R 0 0 0 h h9 := R0.tr (h9R : pw_R 0 0 0 h h9) (by decide) (by decide) (by decide)
      have hA12 : pw_g h9 125 7 ≤ n ∧ 0 ≤ pw_g h9 125 8 ∧ 0 ≤ pw_g h9 125 7 ∧ 0 ≤ pw_g h9 125 32 := h9A.2.2
      have hA13 : pw_g h 125 7 - pw_g h 125 32 + 0 ≤ pw_g h9 125 7 - pw_g h9 125 32 := R11.1.2.2.2.1
      have hA14 : pw_g h 125 7 ≤ pw_g h9 125 7 := h9R.1.2.1
      have hA14z : pw_g h9 125 8 = 0 → pw_g h 125 8 = 0 := h9R.1.1
      refine pw_vret E rfl ?_
      exact ⟨h9I, h9F, ⟨h9A, R11.wk (by decide)⟩, rfl⟩
  · refine ⟨_, rfl, ?_⟩
    have h3F := E0.tr (h3E.wk (W' := [125]) (by first | rfl | simp))
    change x5 = 1 at x5b
    have R15 : pw_R 1 0 0 h h3 := R0.tr (h3R : pw_R 1 0 0 h h3) (by decide) (by decide) (by decide)
    have hA16 : pw_g h3 125 7 ≤ n ∧ 0 ≤ pw_g h3 125 8 ∧ 0 ≤ pw_g h3 125 7 ∧ 0 ≤ pw_g h3 125 32 := h3A.2.2
    have hA17 : pw_g h 125 7 - pw_g h 125 32 + 1 ≤ pw_g h3 125 7 - pw_g h3 125 32 := R15.1.2.2.2.1
    have hA18 : pw_g h 125 7 ≤ pw_g h3 125 7 := h3R.1.2.1
    have hA18z : pw_g h3 125 8 = 0 → pw_g h 125 8 = 0 := h3R.1.1
    show pw X d h3 246 5 [some (.ref 141), some (pw_i wd)] [pw_i x5] _
    refine pw_if E (pc' := 13) rfl (by decide) (by omega) (by omega) ?_ ?_
    · intro hc19
      change x5 ≠ (0 : Int) at hc19
      refine pw_vret E rfl ?_
      exact ⟨h3I, h3F, ⟨h3A, R15.wk (by decide)⟩, rfl⟩
    · intro hc20
      change ¬ (x5 ≠ (0 : Int)) at hc20
      exfalso; omega
set_option maxHeartbeats 4000000 in
theorem cm_255 {X : List (Nat × List Value)} {d : Nat} {h : pm_H} (hd : 1 ≤ d) (I : pw_I h) {n : Nat} (A : pw_A n h) (hc : pw_g h 125 32 ≤ 1000) (c : Int) (hc1 : 0 ≤ c) (hc2 : c ≤ 10) (a : Int) (ha1 : (-2147483648) ≤ a) (ha2 : a ≤ 2147483647) : pw X d h 255 0 [some (.ref 141), some (pw_i c), some (pw_i a)] [] (fun h' v => pw_I h' ∧ pw_E [125, 146, 147] h h' ∧ (pw_g h' 125 8 = pw_g h 125 8 ∧ pw_g h' 125 7 = pw_g h 125 7 ∧ pw_g h' 125 32 = pw_g h 125 32 + 1 ∧ pw_g h' 146 (4400 + pw_g h 125 32).toNat = c ∧ pw_g h' 147 (4400 + pw_g h 125 32).toNat = a ∧ ∀ j : Nat, j ≠ (4400 + pw_g h 125 32).toNat → pw_g h' 146 j = pw_g h 146 j ∧ pw_g h' 147 j = pw_g h 147 j) ∧ (v = .inl none)) := by
  have E : pm_ent 255 = some (3, 3, 12, 4, pmc_255) := rfl
  have E0 : pw_E [125, 146, 147] h h := pw_E.rf _ _
  have R0 : pw_R 0 0 0 h h := pw_R.rf A.2.2.2.2.2
  have hn1 : n ≤ 1000 := A.1
  have hA1 : pw_g h 125 7 ≤ n ∧ 0 ≤ pw_g h 125 8 ∧ 0 ≤ pw_g h 125 7 ∧ 0 ≤ pw_g h 125 32 := A.2.2
  refine pw_ld E (pc' := 1) (st' := [.ref 141]) rfl (fun _ => rfl) ?_
  refine pw_getR (b := 162) I E (c := 125) (k := 33) (pc' := 4) rfl rfl rfl rfl rfl rfl rfl ?_
  refine pw_sip E (pc' := 7) rfl rfl (by decide) ?_
  refine pw_ld E (pc' := 8) (st' := [.ref 141, pw_i 4400, .ref 162]) rfl (fun _ => rfl) ?_
  refine pw_getI2 I E (c := 125) (k := 32) (pc' := 11) rfl rfl rfl rfl rfl rfl (fun hf2a hf2b => ?_)
  refine pw_add E (pc' := 12) rfl rfl ?_
  refine pw_ld E (pc' := 13) (st' := [pw_i c, pw_i (4400 + (pw_g h 125 32)), .ref 162]) rfl (fun _ => rfl) ?_
  refine pw_ast0 I E (c := 146) (pc' := 14) rfl rfl rfl (by decide) rfl (by decide) (by omega) (by omega) rfl (by omega) (by omega) (by omega) (by omega) rfl ?_
  intro h3I h3E
  generalize h3w : pw_w h 146 ((4400 + (pw_g h 125 32)).toNat) (pw_i c) = h3 at h3I h3E ⊢
  have h3F := E0.tr (h3E.wk (W' := [125, 146, 147]) (by first | rfl | simp))
  refine pw_ld E (pc' := 15) (st' := [.ref 141]) rfl (fun _ => rfl) ?_
  refine pw_getR (b := 163) h3I E (c := 125) (k := 34) (pc' := 18) rfl rfl rfl rfl rfl rfl rfl ?_
  refine pw_sip E (pc' := 21) rfl rfl (by decide) ?_
  refine pw_ld E (pc' := 22) (st' := [.ref 141, pw_i 4400, .ref 163]) rfl (fun _ => rfl) ?_
  have he5 : pw_g h3 125 32 = pw_g h 125 32 := by rw [← h3w]; exact pw_g_ne (by omega)
  refine pw_getI2 h3I E (c := 125) (k := 32) (pc' := 25) rfl rfl rfl rfl rfl rfl (fun hf4a hf4b => ?_)
  refine pw_add E (pc' := 26) rfl rfl ?_
  refine pw_ld E (pc' := 27) (st' := [pw_i a, pw_i (4400 + (pw_g h3 125 32)), .ref 163]) rfl (fun _ => rfl) ?_
  refine pw_ast0 h3I E (c := 147) (pc' := 28) rfl rfl rfl (by decide) rfl (by decide) (by omega) (by omega) rfl (by omega) (by omega) (by omega) (by omega) rfl ?_
  intro h6I h6E
  generalize h6w : pw_w h3 147 ((4400 + (pw_g h3 125 32)).toNat) (pw_i a) = h6 at h6I h6E ⊢
  have h6F := h3F.tr (h6E.wk (W' := [125, 146, 147]) (by first | rfl | simp))
  refine pw_ld E (pc' := 29) (st' := [.ref 141]) rfl (fun _ => rfl) ?_
  refine pw_ld E (pc' := 30) (st' := [.ref 141, .ref 141]) rfl (fun _ => rfl) ?_
  have he8 : pw_g h6 125 32 = pw_g h3 125 32 := by rw [← h6w]; exact pw_g_ne (by omega)
  refine pw_getI2 h6I E (c := 125) (k := 32) (pc' := 33) rfl rfl rfl rfl rfl rfl (fun hf7a hf7b => ?_)
  refine pw_ld E (pc' := 34) (st' := [pw_i 1, pw_i (pw_g h6 125 32), .ref 141]) rfl (fun _ => rfl) ?_
  refine pw_add E (pc' := 35) rfl rfl ?_
  refine pw_putI h6I E (c := 125) (k := 32) (pc' := 38) rfl rfl rfl rfl (by omega) (by omega) (by omega) (by omega) rfl rfl ?_
  intro h9I h9E
  generalize h9w : pw_w h6 125 32 (pw_i ((pw_g h6 125 32) + 1)) = h9 at h9I h9E ⊢
  have h9F := h6F.tr (h9E.wk (W' := [125, 146, 147]) (by first | rfl | simp))
  refine pw_vret E rfl ?_
  have q1 : pw_g h3 125 32 = pw_g h 125 32 := by rw [← h3w]; exact pw_g_ne (by omega)
  have q2 : pw_g h6 125 32 = pw_g h3 125 32 := by rw [← h6w]; exact pw_g_ne (by omega)
  have q3 : pw_g h9 125 32 = pw_g h6 125 32 + 1 := by rw [← h9w]; exact pw_g_eq (c := 125) (k := 32) h6I rfl rfl (by omega) (by omega)
  have q4 : pw_g h3 146 (4400 + pw_g h 125 32).toNat = c := by rw [← h3w]; exact pw_g_eqA I rfl (by omega) (by omega) (by omega)
  have q5 : pw_g h6 147 (4400 + pw_g h3 125 32).toNat = a := by rw [← h6w]; exact pw_g_eqA h3I rfl (by omega) (by omega) (by omega)
  rw [q1] at q5
  exact ⟨h9I, h9F, ⟨by rw [← h9w, pw_g_ne (by omega), ← h6w, pw_g_ne (by omega), ← h3w, pw_g_ne (by omega)], by rw [← h9w, pw_g_ne (by omega), ← h6w, pw_g_ne (by omega), ← h3w, pw_g_ne (by omega)], by omega, by rw [← h9w, pw_g_ne (by omega), ← h6w, pw_g_ne (by omega)]; exact q4, by rw [← h9w, pw_g_ne (by omega)]; exact q5, fun j hj => ⟨by rw [← h9w, pw_g_ne (by omega), ← h6w, pw_g_ne (by omega), ← h3w]; exact pw_g_ne (fun q => hj q.2.symm), by rw [← h9w, pw_g_ne (by omega), ← h6w, pw_g_ne (fun q => hj (by rw [← q1]; exact q.2.symm)), ← h3w]; exact pw_g_ne (by omega)⟩⟩, rfl⟩
