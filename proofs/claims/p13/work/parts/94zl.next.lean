/-! next, exactly (printed by wip/tool/mnext.py) -/
def pv_np (h : pm_H) (b e : Int) (k : Nat) : Int := if pw_g h 2 k = 1 ∧ ¬ (pw_g h 11 ((k : Int) * 12 + b).toNat ≠ -2 ∧ pw_g h 11 ((k : Int) * 12 + e).toNat ≠ -2) then 1 else 0
theorem pv_np_I {h : pm_H} {b e : Int} {k : Int} (hk : 0 ≤ k) : ((pw_g h 2 k.toNat = 1 ∧ ¬ (pw_g h 11 (k * 12 + b).toNat ≠ -2 ∧ pw_g h 11 (k * 12 + e).toNat ≠ -2)) → pv_np h b e k.toNat = 1) ∧ (¬ (pw_g h 2 k.toNat = 1 ∧ ¬ (pw_g h 11 (k * 12 + b).toNat ≠ -2 ∧ pw_g h 11 (k * 12 + e).toNat ≠ -2)) → pv_np h b e k.toNat = 0) := by
  have e : ((k.toNat : Nat) : Int) = k := by omega
  unfold pv_np
  try rw [e]
  exact ⟨fun q => if_pos q, fun q => if_neg q⟩
def pv_npm (h : pm_H) (b e : Int) (k : Nat) : Int := if pw_g h 131 k ≠ 0 ∧ ¬ (pw_g h 131 k ≠ 0 ∧ pw_g h 138 (12 * (k : Int) + b).toNat ≠ 0 ∧ pw_g h 138 (12 * (k : Int) + e).toNat ≠ 0) then 1 else 0
theorem pv_npm_I {h : pm_H} {b e : Int} {k : Int} (hk : 0 ≤ k) : ((pw_g h 131 k.toNat ≠ 0 ∧ ¬ (pw_g h 131 k.toNat ≠ 0 ∧ pw_g h 138 (12 * k + b).toNat ≠ 0 ∧ pw_g h 138 (12 * k + e).toNat ≠ 0)) → pv_npm h b e k.toNat = 1) ∧ (¬ (pw_g h 131 k.toNat ≠ 0 ∧ ¬ (pw_g h 131 k.toNat ≠ 0 ∧ pw_g h 138 (12 * k + b).toNat ≠ 0 ∧ pw_g h 138 (12 * k + e).toNat ≠ 0)) → pv_npm h b e k.toNat = 0) := by
  have e : ((k.toNat : Nat) : Int) = k := by omega
  unfold pv_npm
  try rw [e]
  exact ⟨fun q => if_pos q, fun q => if_neg q⟩
def pv_sa (h : pm_H) (b e k : Int) : Int := (if pw_g h 11 (k * 12 + b).toNat = -2 then 1 else 0) + (if pw_g h 11 (k * 12 + e).toNat = -2 then 1 else 0)
def pv_sam (h : pm_H) (b e k : Int) : Int := (if pw_g h 138 (12 * k + b).toNat = 0 then 1 else 0) + (if pw_g h 138 (12 * k + e).toNat = 0 then 1 else 0)
theorem pv_ite1 {p : Prop} [Decidable p] : (p → (if p then (1 : Int) else 0) = 1) ∧ (¬ p → (if p then (1 : Int) else 0) = 0) := ⟨fun q => if_pos q, fun q => if_neg q⟩
def pv_nwc (h : pm_H) (b e : Int) (k : Nat) : Int := pw_g h 6 k * pv_sa h b e k
def pv_nwm (h : pm_H) (b e : Int) (k : Nat) : Int := pw_g h 134 k * pv_sam h b e k
def pv_nzc (h : pm_H) (k : Nat) : Int := pv_N (pv_sdb h) (pw_g h 4 k) 24
def pv_nzm (h : pm_H) (k : Nat) : Int := pv_N (pv_sdbm h) (pw_g h 132 k) 24
def pv_nx (p w z : Nat → Int) : Nat → Int × Int × Int
  | 0 => (-1, 0, 1)
  | k + 1 => if p k = 1 ∧ ((pv_nx p w z k).1 = -1 ∨ (pv_nx p w z k).2.1 * z k < w k * (pv_nx p w z k).2.2) then ((k : Int), w k, z k) else pv_nx p w z k
theorem pv_nxS {p w z : Nat → Int} {k a c d : Int} (hk : 0 ≤ k) (ht : pv_nx p w z k.toNat = (a, c, d)) : ((p k.toNat = 1 ∧ (a = -1 ∨ c * z k.toNat < w k.toNat * d)) → pv_nx p w z (k + 1).toNat = (k, w k.toNat, z k.toNat)) ∧ (¬ (p k.toNat = 1 ∧ (a = -1 ∨ c * z k.toNat < w k.toNat * d)) → pv_nx p w z (k + 1).toNat = (a, c, d)) := by
  rw [show (k + 1).toNat = k.toNat + 1 by omega]
  have e : pv_nx p w z (k.toNat + 1) = if p k.toNat = 1 ∧ ((pv_nx p w z k.toNat).1 = -1 ∨ (pv_nx p w z k.toNat).2.1 * z k.toNat < w k.toNat * (pv_nx p w z k.toNat).2.2) then ((k.toNat : Int), w k.toNat, z k.toNat) else pv_nx p w z k.toNat := rfl
  rw [e, ht]
  refine ⟨fun q => ?_, fun q => if_neg q⟩
  rw [if_pos q, show ((k.toNat : Nat) : Int) = k by omega]
theorem pv_nxcg {p w z p' w' z' : Nat → Int} : ∀ n : Nat, (∀ k : Nat, k < n → p k = p' k ∧ (p k = 1 → w k = w' k ∧ z k = z' k)) → pv_nx p w z n = pv_nx p' w' z' n := by
  intro n
  induction n with
  | zero => intro _; rfl
  | succ n ih =>
    intro H
    obtain ⟨a, b⟩ := H n (Nat.lt_succ_self n)
    have c := ih (fun k hk => H k (Nat.lt_succ_of_lt hk))
    show (if p n = 1 ∧ ((pv_nx p w z n).1 = -1 ∨ (pv_nx p w z n).2.1 * z n < w n * (pv_nx p w z n).2.2) then ((n : Int), w n, z n) else pv_nx p w z n) = if p' n = 1 ∧ ((pv_nx p' w' z' n).1 = -1 ∨ (pv_nx p' w' z' n).2.1 * z' n < w' n * (pv_nx p' w' z' n).2.2) then ((n : Int), w' n, z' n) else pv_nx p' w' z' n
    rw [c, ← a]
    by_cases q : p n = 1
    · obtain ⟨b1, b2⟩ := b q
      rw [b1, b2]
    · rw [if_neg (fun w => q w.1), if_neg (fun w => q w.1)]

set_option maxHeartbeats 4000000 in
theorem cm_62_s {X : List (Nat × List Value)} {d : Nat} {h : pm_H} (hd : 2 ≤ d) (I : pw_I h) (b : Int) (hb1 : 0 ≤ b) (hb2 : b ≤ 1) : pw X d h 62 0 [some (.ref 17), some (pw_i b), none, none] [] (fun h' v => h = h' ∧ ∃ a : Int, v = .inl (some (pw_i a)) ∧ 0 ≤ a ∧ a ≤ 24 ∧ (a = pv_N (pv_sdb h) b 24)) := by
  have E : pm_ent 62 = some (2, 4, 6, 0, pmc_62) := rfl
  refine pw_ld E (pc' := 1) (st' := [pw_i 0]) rfl (fun _ => rfl) ?_
  refine pw_istn E (pc' := 2) (ls' := [some (.ref 17), some (pw_i b), some (pw_i 0), none]) rfl rfl rfl rfl ?_
  refine pw_ld E (pc' := 3) (st' := [pw_i 0]) rfl (fun _ => rfl) ?_
  refine pw_istn E (pc' := 4) (ls' := [some (.ref 17), some (pw_i b), some (pw_i 0), some (pw_i 0)]) rfl rfl rfl rfl ?_
  have L4 : ∀ (n4 : Nat) (k4_2 : Int) (k4_3 : Int), 0 ≤ k4_2 → k4_2 ≤ 24 → 0 ≤ k4_3 → k4_3 ≤ 24 → k4_2 ≤ k4_3 → k4_2 = pv_N (pv_sdb h) b (k4_3).toNat → (24 - k4_3).toNat = n4 → pw X d h 62 4 [some (.ref 17), some (pw_i b), some (pw_i k4_2), some (pw_i k4_3)] [] (fun h' v => h = h' ∧ ∃ a : Int, v = .inl (some (pw_i a)) ∧ 0 ≤ a ∧ a ≤ 24 ∧ (a = pv_N (pv_sdb h) b 24)) := by
    intro n4
    induction n4 using Nat.strongRecOn with
    | ind n4 ih4 =>
      intro k4_2 k4_3 k4_2a k4_2b k4_3a k4_3b hx4_0 hx4_1 hm4
      refine pw_ld E (pc' := 5) (st' := [pw_i k4_3]) rfl (fun _ => rfl) ?_
      refine pw_bip E (pc' := 7) rfl rfl (by decide) ?_
      refine pw_if2 E (pc' := 33) rfl (by decide) (by omega) (by omega) (by decide) (by decide) ?_ ?_
      · intro hc1
        change (24 : Int) ≤ k4_3 at hc1
        rw [show (k4_3).toNat = 24 by omega] at hx4_1
        refine pw_ld E (pc' := 34) (st' := [pw_i k4_2]) rfl (fun _ => rfl) ?_
        refine pw_iret E rfl ?_
        exact ⟨rfl, ⟨_, rfl, by omega, by omega, by omega⟩⟩
      · intro hc2
        change ¬ ((24 : Int) ≤ k4_3) at hc2
        have o1 := pv_Ns (sd := pv_sdb h) (s := b) (k := k4_3) (by omega)
        have od := pv_sdb_I (h := h) (k := k4_3) (by omega)
        refine pw_ld E (pc' := 11) (st' := [pw_i k4_2]) rfl (fun _ => rfl) ?_
        refine pw_ld E (pc' := 12) (st' := [.ref 17, pw_i k4_2]) rfl (fun _ => rfl) ?_
        refine pw_ld E (pc' := 13) (st' := [pw_i k4_3, .ref 17, pw_i k4_2]) rfl (fun _ => rfl) ?_
        refine pw_ld E (pc' := 14) (st' := [pw_i b, pw_i k4_3, .ref 17, pw_i k4_2]) rfl (fun _ => rfl) ?_
        obtain ⟨f3l, f3h, -⟩ := pw_obj (c := 1) I rfl
        refine pw_call (m' := 63) (As := [.ref 17, pw_i k4_3, pw_i b]) (rest := [pw_i k4_2]) (ls'' := [some (.ref 17), some (pw_i k4_3), some (pw_i b)]) (Nat.le_trans (by decide) hd) E rfl (fun _ => pw_iV rfl rfl rfl rfl (pw_cellI f3h rfl)) (rfl : pm_ent 63 = some (3, 3, 6, 1, pmc_63)) rfl rfl (cm_63_s (pw_dp hd (by decide)) I (k4_3) (by omega) (by omega) (b) (by omega) (by omega)) ?_
        rintro u5 v4 ⟨rfl, x6, rfl, hx6a, hx6b, hx6r⟩
        refine ⟨_, rfl, ?_⟩
        show pw X d h 62 17 [some (.ref 17), some (pw_i b), some (pw_i k4_2), some (pw_i k4_3)] [pw_i x6, pw_i k4_2] _
        change (x6 = 1 ∧ pw_g h 2 k4_3.toNat = 1 ∧ pw_g h 4 k4_3.toNat = b) ∨ (x6 = 0 ∧ ¬ (pw_g h 2 k4_3.toNat = 1 ∧ pw_g h 4 k4_3.toNat = b)) at hx6r
        rcases (by omega : x6 = 1 ∨ x6 = 0) with hb7 | hb7
        · skip
          refine pw_if E (pc' := 24) rfl (by decide) (by omega) (by omega) ?_ ?_
          · intro hc8
            change x6 = (0 : Int) at hc8
            exfalso; omega
          · intro hc9
            change ¬ (x6 = (0 : Int)) at hc9
            refine pw_ld E (pc' := 21) (st' := [pw_i 1, pw_i k4_2]) rfl (fun _ => rfl) ?_
            refine pw_goto E (pc' := 25) rfl (by decide) ?_
            refine pw_add E (pc' := 26) rfl rfl ?_
            refine pw_istn E (pc' := 27) (ls' := [some (.ref 17), some (pw_i b), some (pw_i (k4_2 + 1)), some (pw_i k4_3)]) rfl rfl rfl rfl ?_
            refine pw_inc E (pc' := 30) (ls' := [some (.ref 17), some (pw_i b), some (pw_i (k4_2 + 1)), some (pw_i (k4_3 + 1))]) rfl rfl rfl rfl ?_
            refine pw_goto E (pc' := 4) rfl (by decide) ?_
            exact ih4 _ (by omega) (k4_2 + 1) (k4_3 + 1)  (by omega) (by omega) (by omega) (by omega) (by omega) (by omega) rfl
        · skip
          refine pw_if E (pc' := 24) rfl (by decide) (by omega) (by omega) ?_ ?_
          · intro hc11
            change x6 = (0 : Int) at hc11
            refine pw_ld E (pc' := 25) (st' := [pw_i 0, pw_i k4_2]) rfl (fun _ => rfl) ?_
            refine pw_add E (pc' := 26) rfl rfl ?_
            refine pw_istn E (pc' := 27) (ls' := [some (.ref 17), some (pw_i b), some (pw_i (k4_2 + 0)), some (pw_i k4_3)]) rfl rfl rfl rfl ?_
            refine pw_inc E (pc' := 30) (ls' := [some (.ref 17), some (pw_i b), some (pw_i (k4_2 + 0)), some (pw_i (k4_3 + 1))]) rfl rfl rfl rfl ?_
            refine pw_goto E (pc' := 4) rfl (by decide) ?_
            exact ih4 _ (by omega) (k4_2 + 0) (k4_3 + 1)  (by omega) (by omega) (by omega) (by omega) (by omega) (by omega) rfl
          · intro hc12
            change ¬ (x6 = (0 : Int)) at hc12
            exfalso; omega
  exact L4 _ (0) (0)  (by omega) (by omega) (by omega) (by omega) (by omega) rfl rfl
set_option maxHeartbeats 4000000 in
theorem cm_135_s {X : List (Nat × List Value)} {d : Nat} {h : pm_H} (hd : 2 ≤ d) (I : pw_I h) (k : Int) (hk1 : 0 ≤ k) (hk2 : k ≤ 23) (b : Int) (hb1 : 0 ≤ b) (hb2 : b ≤ 11) (e : Int) (he1 : 0 ≤ e) (he2 : e ≤ 11) : pw X d h 135 0 [some (.ref 16), some (pw_i k), some (pw_i b), some (pw_i e)] [] (fun h' v => h = h' ∧ ∃ a : Int, v = .inl (some (pw_i a)) ∧ 0 ≤ a ∧ a ≤ 2 ∧ (a = pv_sa h b e k)) := by
  have E : pm_ent 135 = some (4, 4, 11, 0, pmc_135) := rfl
  refine pw_ld E (pc' := 1) (st' := [.ref 16]) rfl (fun _ => rfl) ?_
  refine pw_getR (b := 26) I E (c := 0) (k := 2) (pc' := 4) rfl rfl rfl rfl rfl rfl rfl ?_
  refine pw_ld E (pc' := 5) (st' := [pw_i k, .ref 26]) rfl (fun _ => rfl) ?_
  refine pw_ld E (pc' := 6) (st' := [pw_i b, pw_i k, .ref 26]) rfl (fun _ => rfl) ?_
  obtain ⟨f1l, f1h, -⟩ := pw_obj (c := 10) I rfl
  refine pw_call (m' := 19) (As := [.ref 26, pw_i k, pw_i b]) (rest := []) (ls'' := [some (.ref 26), some (pw_i k), some (pw_i b)]) (Nat.le_trans (by decide) hd) E rfl (fun _ => pw_iV rfl rfl rfl rfl (pw_cellI f1h rfl)) (rfl : pm_ent 19 = some (3, 3, 2, 1, pmc_19)) rfl rfl (cm_19_10h (pw_dp hd (by decide)) I (k) (by omega) (by omega) (b) (by omega) (by omega)) ?_
  rintro u3 v2 ⟨rfl, x4, rfl, hx4a, hx4b, hx4r⟩
  refine ⟨_, rfl, ?_⟩
  show pw X d h 135 9 [some (.ref 16), some (pw_i k), some (pw_i b), some (pw_i e)] [pw_i x4] _
  change (x4 = 1 ∧ pw_g h 11 (k * 12 + b).toNat = -2) ∨ (x4 = 0 ∧ pw_g h 11 (k * 12 + b).toNat ≠ -2) at hx4r
  rcases (by omega : x4 = 1 ∨ x4 = 0) with hb5 | hb5
  · skip
    refine pw_if E (pc' := 16) rfl (by decide) (by omega) (by omega) ?_ ?_
    · intro hc6
      change x4 = (0 : Int) at hc6
      exfalso; omega
    · intro hc7
      change ¬ (x4 = (0 : Int)) at hc7
      refine pw_ld E (pc' := 13) (st' := [pw_i 1]) rfl (fun _ => rfl) ?_
      refine pw_goto E (pc' := 17) rfl (by decide) ?_
      refine pw_ld E (pc' := 18) (st' := [.ref 16, pw_i 1]) rfl (fun _ => rfl) ?_
      refine pw_getR (b := 26) I E (c := 0) (k := 2) (pc' := 21) rfl rfl rfl rfl rfl rfl rfl ?_
      refine pw_ld E (pc' := 22) (st' := [pw_i k, .ref 26, pw_i 1]) rfl (fun _ => rfl) ?_
      refine pw_ld E (pc' := 23) (st' := [pw_i e, pw_i k, .ref 26, pw_i 1]) rfl (fun _ => rfl) ?_
      obtain ⟨f8l, f8h, -⟩ := pw_obj (c := 10) I rfl
      refine pw_call (m' := 19) (As := [.ref 26, pw_i k, pw_i e]) (rest := [pw_i 1]) (ls'' := [some (.ref 26), some (pw_i k), some (pw_i e)]) (Nat.le_trans (by decide) hd) E rfl (fun _ => pw_iV rfl rfl rfl rfl (pw_cellI f8h rfl)) (rfl : pm_ent 19 = some (3, 3, 2, 1, pmc_19)) rfl rfl (cm_19_10h (pw_dp hd (by decide)) I (k) (by omega) (by omega) (e) (by omega) (by omega)) ?_
      rintro u10 v9 ⟨rfl, x11, rfl, hx11a, hx11b, hx11r⟩
      refine ⟨_, rfl, ?_⟩
      show pw X d h 135 26 [some (.ref 16), some (pw_i k), some (pw_i b), some (pw_i e)] [pw_i x11, pw_i 1] _
      change (x11 = 1 ∧ pw_g h 11 (k * 12 + e).toNat = -2) ∨ (x11 = 0 ∧ pw_g h 11 (k * 12 + e).toNat ≠ -2) at hx11r
      rcases (by omega : x11 = 1 ∨ x11 = 0) with hb12 | hb12
      · skip
        refine pw_if E (pc' := 33) rfl (by decide) (by omega) (by omega) ?_ ?_
        · intro hc13
          change x11 = (0 : Int) at hc13
          exfalso; omega
        · intro hc14
          change ¬ (x11 = (0 : Int)) at hc14
          refine pw_ld E (pc' := 30) (st' := [pw_i 1, pw_i 1]) rfl (fun _ => rfl) ?_
          refine pw_goto E (pc' := 34) rfl (by decide) ?_
          refine pw_add E (pc' := 35) rfl rfl ?_
          have ib := pv_ite1 (p := pw_g h 11 (k * 12 + b).toNat = -2)
          have ie := pv_ite1 (p := pw_g h 11 (k * 12 + e).toNat = -2)
          refine pw_iret E rfl ?_
          exact ⟨rfl, ⟨_, rfl, by omega, by omega, by unfold pv_sa; omega⟩⟩
      · skip
        refine pw_if E (pc' := 33) rfl (by decide) (by omega) (by omega) ?_ ?_
        · intro hc16
          change x11 = (0 : Int) at hc16
          refine pw_ld E (pc' := 34) (st' := [pw_i 0, pw_i 1]) rfl (fun _ => rfl) ?_
          refine pw_add E (pc' := 35) rfl rfl ?_
          have ib := pv_ite1 (p := pw_g h 11 (k * 12 + b).toNat = -2)
          have ie := pv_ite1 (p := pw_g h 11 (k * 12 + e).toNat = -2)
          refine pw_iret E rfl ?_
          exact ⟨rfl, ⟨_, rfl, by omega, by omega, by unfold pv_sa; omega⟩⟩
        · intro hc17
          change ¬ (x11 = (0 : Int)) at hc17
          exfalso; omega
  · skip
    refine pw_if E (pc' := 16) rfl (by decide) (by omega) (by omega) ?_ ?_
    · intro hc19
      change x4 = (0 : Int) at hc19
      refine pw_ld E (pc' := 17) (st' := [pw_i 0]) rfl (fun _ => rfl) ?_
      refine pw_ld E (pc' := 18) (st' := [.ref 16, pw_i 0]) rfl (fun _ => rfl) ?_
      refine pw_getR (b := 26) I E (c := 0) (k := 2) (pc' := 21) rfl rfl rfl rfl rfl rfl rfl ?_
      refine pw_ld E (pc' := 22) (st' := [pw_i k, .ref 26, pw_i 0]) rfl (fun _ => rfl) ?_
      refine pw_ld E (pc' := 23) (st' := [pw_i e, pw_i k, .ref 26, pw_i 0]) rfl (fun _ => rfl) ?_
      obtain ⟨f20l, f20h, -⟩ := pw_obj (c := 10) I rfl
      refine pw_call (m' := 19) (As := [.ref 26, pw_i k, pw_i e]) (rest := [pw_i 0]) (ls'' := [some (.ref 26), some (pw_i k), some (pw_i e)]) (Nat.le_trans (by decide) hd) E rfl (fun _ => pw_iV rfl rfl rfl rfl (pw_cellI f20h rfl)) (rfl : pm_ent 19 = some (3, 3, 2, 1, pmc_19)) rfl rfl (cm_19_10h (pw_dp hd (by decide)) I (k) (by omega) (by omega) (e) (by omega) (by omega)) ?_
      rintro u22 v21 ⟨rfl, x23, rfl, hx23a, hx23b, hx23r⟩
      refine ⟨_, rfl, ?_⟩
      show pw X d h 135 26 [some (.ref 16), some (pw_i k), some (pw_i b), some (pw_i e)] [pw_i x23, pw_i 0] _
      change (x23 = 1 ∧ pw_g h 11 (k * 12 + e).toNat = -2) ∨ (x23 = 0 ∧ pw_g h 11 (k * 12 + e).toNat ≠ -2) at hx23r
      rcases (by omega : x23 = 1 ∨ x23 = 0) with hb24 | hb24
      · skip
        refine pw_if E (pc' := 33) rfl (by decide) (by omega) (by omega) ?_ ?_
        · intro hc25
          change x23 = (0 : Int) at hc25
          exfalso; omega
        · intro hc26
          change ¬ (x23 = (0 : Int)) at hc26
          refine pw_ld E (pc' := 30) (st' := [pw_i 1, pw_i 0]) rfl (fun _ => rfl) ?_
          refine pw_goto E (pc' := 34) rfl (by decide) ?_
          refine pw_add E (pc' := 35) rfl rfl ?_
          have ib := pv_ite1 (p := pw_g h 11 (k * 12 + b).toNat = -2)
          have ie := pv_ite1 (p := pw_g h 11 (k * 12 + e).toNat = -2)
          refine pw_iret E rfl ?_
          exact ⟨rfl, ⟨_, rfl, by omega, by omega, by unfold pv_sa; omega⟩⟩
      · skip
        refine pw_if E (pc' := 33) rfl (by decide) (by omega) (by omega) ?_ ?_
        · intro hc28
          change x23 = (0 : Int) at hc28
          refine pw_ld E (pc' := 34) (st' := [pw_i 0, pw_i 0]) rfl (fun _ => rfl) ?_
          refine pw_add E (pc' := 35) rfl rfl ?_
          have ib := pv_ite1 (p := pw_g h 11 (k * 12 + b).toNat = -2)
          have ie := pv_ite1 (p := pw_g h 11 (k * 12 + e).toNat = -2)
          refine pw_iret E rfl ?_
          exact ⟨rfl, ⟨_, rfl, by omega, by omega, by unfold pv_sa; omega⟩⟩
        · intro hc29
          change ¬ (x23 = (0 : Int)) at hc29
          exfalso; omega
    · intro hc30
      change ¬ (x4 = (0 : Int)) at hc30
      exfalso; omega
set_option maxHeartbeats 4000000 in
theorem cm_134_s {X : List (Nat × List Value)} {d : Nat} {h : pm_H} (hd : 4 ≤ d) (I : pw_I h) (b : Int) (hb1 : (-2147483648) ≤ b) (hb2 : b ≤ 2147483647) (e : Int) (he1 : (-2147483648) ≤ e) (he2 : e ≤ 2147483647) : pw X d h 134 0 [some (.ref 16), some (pw_i b), some (pw_i e), none, none, none, none, none, none, none, none, none, none] [] (fun h' v => h = h' ∧ ∃ a : Int, v = .inl (some (pw_i a)) ∧ (-2147483648) ≤ a ∧ a ≤ 2147483647 ∧ ((((0 ≤ b ∧ b ≤ 11 ∧ 0 ≤ e ∧ e ≤ 11 ∧ b ≠ e) ∧ pv_OK (pv_sdb h)) ∧ a = (pv_nx (pv_np h b e) (pv_nwc h b e) (pv_nzc h) 24).1) ∨ ((¬ (0 ≤ b ∧ b ≤ 11 ∧ 0 ≤ e ∧ e ≤ 11 ∧ b ≠ e) ∨ ¬ pv_OK (pv_sdb h)) ∧ a = -1))) := by
  have E : pm_ent 134 = some (3, 13, 11, 0, pmc_134) := rfl
  refine pw_ld E (pc' := 1) (st' := [pw_i b]) rfl (fun _ => rfl) ?_
  refine pw_ld E (pc' := 2) (st' := [pw_i e, pw_i b]) rfl (fun _ => rfl) ?_
  refine pw_call (m' := 131) (As := [pw_i b, pw_i e]) (rest := []) (ls'' := [some (pw_i b), some (pw_i e)]) (Nat.le_trans (by decide) hd) E rfl (fun _ => pw_iS rfl rfl rfl) (rfl : pm_ent 131 = some (2, 2, 11, 1, pmc_131)) rfl rfl (cm_131_s (pw_dp hd (by decide)) I (b) (by omega) (by omega) (e) (by omega) (by omega)) ?_
  rintro u2 v1 ⟨rfl, x3, rfl, hx3a, hx3b, hx3r⟩
  refine ⟨_, rfl, ?_⟩
  show pw X d h 134 5 [some (.ref 16), some (pw_i b), some (pw_i e), none, none, none, none, none, none, none, none, none, none] [pw_i x3] _
  change (x3 = 1 ∧ 0 ≤ b ∧ b ≤ 11 ∧ 0 ≤ e ∧ e ≤ 11 ∧ b ≠ e) ∨ (x3 = 0 ∧ ¬ (0 ≤ b ∧ b ≤ 11 ∧ 0 ≤ e ∧ e ≤ 11 ∧ b ≠ e)) at hx3r
  rcases (by omega : x3 = 1 ∨ x3 = 0) with hb4 | hb4
  · skip
    refine pw_if E (pc' := 30) rfl (by decide) (by omega) (by omega) ?_ ?_
    · intro hc5
      change x3 = (0 : Int) at hc5
      exfalso; omega
    · intro hc6
      change ¬ (x3 = (0 : Int)) at hc6
      refine pw_ld E (pc' := 9) (st' := [.ref 16]) rfl (fun _ => rfl) ?_
      refine pw_getR (b := 17) I E (c := 0) (k := 0) (pc' := 12) rfl rfl rfl rfl rfl rfl rfl ?_
      refine pw_ld E (pc' := 13) (st' := [pw_i 0, .ref 17]) rfl (fun _ => rfl) ?_
      obtain ⟨f7l, f7h, -⟩ := pw_obj (c := 1) I rfl
      refine pw_call (m' := 62) (As := [.ref 17, pw_i 0]) (rest := []) (ls'' := [some (.ref 17), some (pw_i 0), none, none]) (Nat.le_trans (by decide) hd) E rfl (fun _ => pw_iV rfl rfl rfl rfl (pw_cellI f7h rfl)) (rfl : pm_ent 62 = some (2, 4, 6, 0, pmc_62)) rfl rfl (cm_62_s (pw_dp hd (by decide)) I (0) (by omega) (by omega)) ?_
      rintro u9 v8 ⟨rfl, x10, rfl, hx10a, hx10b, hx10r⟩
      refine ⟨_, rfl, ?_⟩
      show pw X d h 134 16 [some (.ref 16), some (pw_i b), some (pw_i e), none, none, none, none, none, none, none, none, none, none] [pw_i x10] _
      change x10 = pv_N (pv_sdb h) 0 24 at hx10r
      refine pw_if E (pc' := 30) rfl (by decide) (by omega) (by omega) ?_ ?_
      · intro hc11
        change x10 = (0 : Int) at hc11
        refine pw_ld E (pc' := 31) (st' := [pw_i ((-1))]) rfl (fun _ => rfl) ?_
        refine pw_iret E rfl ?_
        exact ⟨rfl, ⟨_, rfl, by omega, by omega, Or.inr ⟨Or.inr (fun q => by have q1 := q.1; have q2 := q.2; omega), rfl⟩⟩⟩
      · intro hc12
        change ¬ (x10 = (0 : Int)) at hc12
        refine pw_ld E (pc' := 20) (st' := [.ref 16]) rfl (fun _ => rfl) ?_
        refine pw_getR (b := 17) I E (c := 0) (k := 0) (pc' := 23) rfl rfl rfl rfl rfl rfl rfl ?_
        refine pw_ld E (pc' := 24) (st' := [pw_i 1, .ref 17]) rfl (fun _ => rfl) ?_
        obtain ⟨f13l, f13h, -⟩ := pw_obj (c := 1) I rfl
        refine pw_call (m' := 62) (As := [.ref 17, pw_i 1]) (rest := []) (ls'' := [some (.ref 17), some (pw_i 1), none, none]) (Nat.le_trans (by decide) hd) E rfl (fun _ => pw_iV rfl rfl rfl rfl (pw_cellI f13h rfl)) (rfl : pm_ent 62 = some (2, 4, 6, 0, pmc_62)) rfl rfl (cm_62_s (pw_dp hd (by decide)) I (1) (by omega) (by omega)) ?_
        rintro u15 v14 ⟨rfl, x16, rfl, hx16a, hx16b, hx16r⟩
        refine ⟨_, rfl, ?_⟩
        show pw X d h 134 27 [some (.ref 16), some (pw_i b), some (pw_i e), none, none, none, none, none, none, none, none, none, none] [pw_i x16] _
        change x16 = pv_N (pv_sdb h) 1 24 at hx16r
        refine pw_if E (pc' := 32) rfl (by decide) (by omega) (by omega) ?_ ?_
        · intro hc17
          change x16 ≠ (0 : Int) at hc17
          refine pw_ld E (pc' := 33) (st' := [pw_i ((-1))]) rfl (fun _ => rfl) ?_
          refine pw_istn E (pc' := 34) (ls' := [some (.ref 16), some (pw_i b), some (pw_i e), some (pw_i ((-1))), none, none, none, none, none, none, none, none, none]) rfl rfl rfl rfl ?_
          refine pw_ld E (pc' := 35) (st' := [.long (Int64.ofInt 0)]) rfl (fun _ => rfl) ?_
          refine pw_lst E (pc' := 37) (ls' := [some (.ref 16), some (pw_i b), some (pw_i e), some (pw_i ((-1))), some (.long (Int64.ofInt 0)), none, none, none, none, none, none, none, none]) rfl rfl rfl rfl ?_
          refine pw_ld E (pc' := 38) (st' := [.long (Int64.ofInt 1)]) rfl (fun _ => rfl) ?_
          refine pw_lst E (pc' := 40) (ls' := [some (.ref 16), some (pw_i b), some (pw_i e), some (pw_i ((-1))), some (.long (Int64.ofInt 0)), none, some (.long (Int64.ofInt 1)), none, none, none, none, none, none]) rfl rfl rfl rfl ?_
          refine pw_ld E (pc' := 41) (st' := [pw_i 0]) rfl (fun _ => rfl) ?_
          refine pw_ist E (pc' := 43) (ls' := [some (.ref 16), some (pw_i b), some (pw_i e), some (pw_i ((-1))), some (.long (Int64.ofInt 0)), none, some (.long (Int64.ofInt 1)), none, some (pw_i 0), none, none, none, none]) rfl rfl rfl rfl ?_
          have L43 : ∀ (n43 : Nat) (k43_3 : Int) (k43_4 : Int) (k43_6 : Int) (k43_8 : Int) (k43_9 : Option Value) (k43_11 : Option Value), (-1) ≤ k43_3 → k43_3 ≤ 23 → 0 ≤ k43_4 → k43_4 ≤ 198 → 0 ≤ k43_6 → k43_6 ≤ 24 → 0 ≤ k43_8 → k43_8 ≤ 24 → pv_nx (pv_np h b e) (pv_nwc h b e) (pv_nzc h) (k43_8).toNat = (k43_3, k43_4, k43_6) → (24 - k43_8).toNat = n43 → pw X d h 134 43 [some (.ref 16), some (pw_i b), some (pw_i e), some (pw_i k43_3), some (.long (Int64.ofInt k43_4)), none, some (.long (Int64.ofInt k43_6)), none, some (pw_i k43_8), k43_9, none, k43_11, none] [] (fun h' v => h = h' ∧ ∃ a : Int, v = .inl (some (pw_i a)) ∧ (-2147483648) ≤ a ∧ a ≤ 2147483647 ∧ ((((0 ≤ b ∧ b ≤ 11 ∧ 0 ≤ e ∧ e ≤ 11 ∧ b ≠ e) ∧ pv_OK (pv_sdb h)) ∧ a = (pv_nx (pv_np h b e) (pv_nwc h b e) (pv_nzc h) 24).1) ∨ ((¬ (0 ≤ b ∧ b ≤ 11 ∧ 0 ≤ e ∧ e ≤ 11 ∧ b ≠ e) ∨ ¬ pv_OK (pv_sdb h)) ∧ a = -1))) := by
            intro n43
            induction n43 using Nat.strongRecOn with
            | ind n43 ih43 =>
              intro k43_3 k43_4 k43_6 k43_8 k43_9 k43_11 k43_3a k43_3b k43_4a k43_4b k43_6a k43_6b k43_8a k43_8b hx43_0 hm43
              refine pw_ld E (pc' := 45) (st' := [pw_i k43_8]) rfl (fun _ => rfl) ?_
              refine pw_bip E (pc' := 47) rfl rfl (by decide) ?_
              refine pw_if2 E (pc' := 153) rfl (by decide) (by omega) (by omega) (by decide) (by decide) ?_ ?_
              · intro hc18
                change (24 : Int) ≤ k43_8 at hc18
                refine pw_ld E (pc' := 154) (st' := [pw_i k43_3]) rfl (fun _ => rfl) ?_
                refine pw_iret E rfl ?_
                rw [show (k43_8).toNat = 24 by omega] at hx43_0
                exact ⟨rfl, ⟨_, rfl, by omega, by omega, Or.inl ⟨⟨by omega, ⟨by omega, by omega⟩⟩, (congrArg Prod.fst hx43_0).symm⟩⟩⟩
              · intro hc19
                change ¬ ((24 : Int) ≤ k43_8) at hc19
                have op := pv_np_I (h := h) (b := b) (e := e) (k := k43_8) (by omega)
                refine pw_ld E (pc' := 51) (st' := [.ref 16]) rfl (fun _ => rfl) ?_
                refine pw_getR (b := 17) I E (c := 0) (k := 0) (pc' := 54) rfl rfl rfl rfl rfl rfl rfl ?_
                refine pw_ld E (pc' := 56) (st' := [pw_i k43_8, .ref 17]) rfl (fun _ => rfl) ?_
                obtain ⟨f20l, f20h, -⟩ := pw_obj (c := 1) I rfl
                refine pw_call (m' := 59) (As := [.ref 17, pw_i k43_8]) (rest := []) (ls'' := [some (.ref 17), some (pw_i k43_8)]) (Nat.le_trans (by decide) hd) E rfl (fun _ => pw_iV rfl rfl rfl rfl (pw_cellI f20h rfl)) (rfl : pm_ent 59 = some (2, 2, 6, 1, pmc_59)) rfl rfl (cm_59 (pw_dp hd (by decide)) I (k43_8) (by omega) (by omega)) ?_
                rintro u22 v21 ⟨rfl, x23, rfl, hx23a, hx23b, hx23r⟩
                refine ⟨_, rfl, ?_⟩
                show pw X d h 134 59 [some (.ref 16), some (pw_i b), some (pw_i e), some (pw_i k43_3), some (.long (Int64.ofInt k43_4)), none, some (.long (Int64.ofInt k43_6)), none, some (pw_i k43_8), k43_9, none, k43_11, none] [pw_i x23] _
                change x23 = pw_g h 2 k43_8.toNat at hx23r
                rcases (by omega : x23 = 1 ∨ x23 = 0) with hb24 | hb24
                · skip
                  refine pw_if E (pc' := 147) rfl (by decide) (by omega) (by omega) ?_ ?_
                  · intro hc25
                    change x23 = (0 : Int) at hc25
                    exfalso; omega
                  · intro hc26
                    change ¬ (x23 = (0 : Int)) at hc26
                    refine pw_ld E (pc' := 63) (st' := [.ref 16]) rfl (fun _ => rfl) ?_
                    refine pw_getR (b := 26) I E (c := 0) (k := 2) (pc' := 66) rfl rfl rfl rfl rfl rfl rfl ?_
                    refine pw_ld E (pc' := 68) (st' := [pw_i k43_8, .ref 26]) rfl (fun _ => rfl) ?_
                    refine pw_ld E (pc' := 69) (st' := [pw_i b, pw_i k43_8, .ref 26]) rfl (fun _ => rfl) ?_
                    refine pw_ld E (pc' := 70) (st' := [pw_i e, pw_i b, pw_i k43_8, .ref 26]) rfl (fun _ => rfl) ?_
                    obtain ⟨f27l, f27h, -⟩ := pw_obj (c := 10) I rfl
                    refine pw_call (m' := 23) (As := [.ref 26, pw_i k43_8, pw_i b, pw_i e]) (rest := []) (ls'' := [some (.ref 26), some (pw_i k43_8), some (pw_i b), some (pw_i e)]) (Nat.le_trans (by decide) hd) E rfl (fun _ => pw_iV rfl rfl rfl rfl (pw_cellI f27h rfl)) (rfl : pm_ent 23 = some (4, 4, 2, 1, pmc_23)) rfl rfl (cm_23_10s (pw_dp hd (by decide)) I (k43_8) (by omega) (by omega) (b) (by omega) (by omega) (e) (by omega) (by omega)) ?_
                    rintro u29 v28 ⟨rfl, x30, rfl, hx30a, hx30b, hx30r⟩
                    refine ⟨_, rfl, ?_⟩
                    show pw X d h 134 73 [some (.ref 16), some (pw_i b), some (pw_i e), some (pw_i k43_3), some (.long (Int64.ofInt k43_4)), none, some (.long (Int64.ofInt k43_6)), none, some (pw_i k43_8), k43_9, none, k43_11, none] [pw_i x30] _
                    change (x30 = 1 ∧ pw_g h 11 (k43_8 * 12 + b).toNat ≠ -2 ∧ pw_g h 11 (k43_8 * 12 + e).toNat ≠ -2) ∨ (x30 = 0 ∧ ¬ (pw_g h 11 (k43_8 * 12 + b).toNat ≠ -2 ∧ pw_g h 11 (k43_8 * 12 + e).toNat ≠ -2)) at hx30r
                    rcases (by omega : x30 = 1 ∨ x30 = 0) with hb31 | hb31
                    · skip
                      refine pw_if E (pc' := 147) rfl (by decide) (by omega) (by omega) ?_ ?_
                      · intro hc32
                        change x30 ≠ (0 : Int) at hc32
                        have hnx := (pv_nxS (p := pv_np h b e) (w := pv_nwc h b e) (z := pv_nzc h) (by omega) hx43_0).2 (fun q => by have := q.1; omega)
                        refine pw_inc E (pc' := 150) (ls' := [some (.ref 16), some (pw_i b), some (pw_i e), some (pw_i k43_3), some (.long (Int64.ofInt k43_4)), none, some (.long (Int64.ofInt k43_6)), none, some (pw_i (k43_8 + 1)), k43_9, none, k43_11, none]) rfl rfl rfl rfl ?_
                        refine pw_goto E (pc' := 43) rfl (by decide) ?_
                        exact ih43 _ (by omega) (k43_3) (k43_4) (k43_6) (k43_8 + 1) k43_9 k43_11  (by omega) (by omega) (by omega) (by omega) (by omega) (by omega) (by omega) (by omega) hnx rfl
                      · intro hc33
                        change ¬ (x30 ≠ (0 : Int)) at hc33
                        exfalso; omega
                    · skip
                      refine pw_if E (pc' := 147) rfl (by decide) (by omega) (by omega) ?_ ?_
                      · intro hc35
                        change x30 ≠ (0 : Int) at hc35
                        exfalso; omega
                      · intro hc36
                        change ¬ (x30 ≠ (0 : Int)) at hc36
                        refine pw_ld E (pc' := 77) (st' := [.ref 16]) rfl (fun _ => rfl) ?_
                        refine pw_getR (b := 17) I E (c := 0) (k := 0) (pc' := 80) rfl rfl rfl rfl rfl rfl rfl ?_
                        refine pw_ld E (pc' := 82) (st' := [pw_i k43_8, .ref 17]) rfl (fun _ => rfl) ?_
                        obtain ⟨f37l, f37h, -⟩ := pw_obj (c := 1) I rfl
                        refine pw_call (m' := 61) (As := [.ref 17, pw_i k43_8]) (rest := []) (ls'' := [some (.ref 17), some (pw_i k43_8)]) (Nat.le_trans (by decide) hd) E rfl (fun _ => pw_iV rfl rfl rfl rfl (pw_cellI f37h rfl)) (rfl : pm_ent 61 = some (2, 2, 6, 0, pmc_61)) rfl rfl (cm_61 (pw_dp hd (by decide)) I (k43_8) (by omega) (by omega)) ?_
                        rintro u39 v38 ⟨rfl, x40, rfl, hx40a, hx40b, hx40r⟩
                        refine ⟨_, rfl, ?_⟩
                        show pw X d h 134 85 [some (.ref 16), some (pw_i b), some (pw_i e), some (pw_i k43_3), some (.long (Int64.ofInt k43_4)), none, some (.long (Int64.ofInt k43_6)), none, some (pw_i k43_8), k43_9, none, k43_11, none] [pw_i x40] _
                        change x40 = pw_g h 6 k43_8.toNat at hx40r
                        refine pw_i2l E (pc' := 86) rfl rfl (by omega) (by omega) ?_
                        refine pw_ld E (pc' := 87) (st' := [.ref 16, .long (Int64.ofInt x40)]) rfl (fun _ => rfl) ?_
                        refine pw_ld E (pc' := 89) (st' := [pw_i k43_8, .ref 16, .long (Int64.ofInt x40)]) rfl (fun _ => rfl) ?_
                        refine pw_ld E (pc' := 90) (st' := [pw_i b, pw_i k43_8, .ref 16, .long (Int64.ofInt x40)]) rfl (fun _ => rfl) ?_
                        refine pw_ld E (pc' := 91) (st' := [pw_i e, pw_i b, pw_i k43_8, .ref 16, .long (Int64.ofInt x40)]) rfl (fun _ => rfl) ?_
                        obtain ⟨f41l, f41h, -⟩ := pw_obj (c := 0) I rfl
                        refine pw_call (m' := 135) (As := [.ref 16, pw_i k43_8, pw_i b, pw_i e]) (rest := [.long (Int64.ofInt x40)]) (ls'' := [some (.ref 16), some (pw_i k43_8), some (pw_i b), some (pw_i e)]) (Nat.le_trans (by decide) hd) E rfl (fun _ => pw_iV rfl rfl rfl rfl (pw_cellI f41h rfl)) (rfl : pm_ent 135 = some (4, 4, 11, 0, pmc_135)) rfl rfl (cm_135_s (pw_dp hd (by decide)) I (k43_8) (by omega) (by omega) (b) (by omega) (by omega) (e) (by omega) (by omega)) ?_
                        rintro u43 v42 ⟨rfl, x44, rfl, hx44a, hx44b, hx44r⟩
                        refine ⟨_, rfl, ?_⟩
                        show pw X d h 134 94 [some (.ref 16), some (pw_i b), some (pw_i e), some (pw_i k43_3), some (.long (Int64.ofInt k43_4)), none, some (.long (Int64.ofInt k43_6)), none, some (pw_i k43_8), k43_9, none, k43_11, none] [pw_i x44, .long (Int64.ofInt x40)] _
                        change x44 = pv_sa h b e k43_8 at hx44r
                        refine pw_i2l E (pc' := 95) rfl rfl (by omega) (by omega) ?_
                        have hm45 := pw_mulB (a := x40) (b := x44) (A := 99) (B := 2) (by omega) (by omega) (by omega) (by omega)
                        refine pw_lmul E (pc' := 96) rfl rfl ?_
                        refine pw_lst E (pc' := 98) (ls' := [some (.ref 16), some (pw_i b), some (pw_i e), some (pw_i k43_3), some (.long (Int64.ofInt k43_4)), none, some (.long (Int64.ofInt k43_6)), none, some (pw_i k43_8), some (.long (Int64.ofInt (x40 * x44))), none, k43_11, none]) rfl rfl rfl rfl ?_
                        refine pw_ld E (pc' := 99) (st' := [.ref 16]) rfl (fun _ => rfl) ?_
                        refine pw_getR (b := 17) I E (c := 0) (k := 0) (pc' := 102) rfl rfl rfl rfl rfl rfl rfl ?_
                        refine pw_ld E (pc' := 103) (st' := [.ref 16, .ref 17]) rfl (fun _ => rfl) ?_
                        refine pw_getR (b := 17) I E (c := 0) (k := 0) (pc' := 106) rfl rfl rfl rfl rfl rfl rfl ?_
                        refine pw_ld E (pc' := 108) (st' := [pw_i k43_8, .ref 17, .ref 17]) rfl (fun _ => rfl) ?_
                        obtain ⟨f46l, f46h, -⟩ := pw_obj (c := 1) I rfl
                        refine pw_call (m' := 60) (As := [.ref 17, pw_i k43_8]) (rest := [.ref 17]) (ls'' := [some (.ref 17), some (pw_i k43_8)]) (Nat.le_trans (by decide) hd) E rfl (fun _ => pw_iV rfl rfl rfl rfl (pw_cellI f46h rfl)) (rfl : pm_ent 60 = some (2, 2, 6, 0, pmc_60)) rfl rfl (cm_60 (pw_dp hd (by decide)) I (k43_8) (by omega) (by omega)) ?_
                        rintro u48 v47 ⟨rfl, x49, rfl, hx49a, hx49b, hx49r⟩
                        refine ⟨_, rfl, ?_⟩
                        show pw X d h 134 111 [some (.ref 16), some (pw_i b), some (pw_i e), some (pw_i k43_3), some (.long (Int64.ofInt k43_4)), none, some (.long (Int64.ofInt k43_6)), none, some (pw_i k43_8), some (.long (Int64.ofInt (x40 * x44))), none, k43_11, none] [pw_i x49, .ref 17] _
                        change x49 = pw_g h 4 k43_8.toNat at hx49r
                        obtain ⟨f50l, f50h, -⟩ := pw_obj (c := 1) I rfl
                        refine pw_call (m' := 62) (As := [.ref 17, pw_i x49]) (rest := []) (ls'' := [some (.ref 17), some (pw_i x49), none, none]) (Nat.le_trans (by decide) hd) E rfl (fun _ => pw_iV rfl rfl rfl rfl (pw_cellI f50h rfl)) (rfl : pm_ent 62 = some (2, 4, 6, 0, pmc_62)) rfl rfl (cm_62_s (pw_dp hd (by decide)) I (x49) (by omega) (by omega)) ?_
                        rintro u52 v51 ⟨rfl, x53, rfl, hx53a, hx53b, hx53r⟩
                        refine ⟨_, rfl, ?_⟩
                        show pw X d h 134 114 [some (.ref 16), some (pw_i b), some (pw_i e), some (pw_i k43_3), some (.long (Int64.ofInt k43_4)), none, some (.long (Int64.ofInt k43_6)), none, some (pw_i k43_8), some (.long (Int64.ofInt (x40 * x44))), none, k43_11, none] [pw_i x53] _
                        change x53 = pv_N (pv_sdb h) x49 24 at hx53r
                        refine pw_i2l E (pc' := 115) rfl rfl (by omega) (by omega) ?_
                        refine pw_lst E (pc' := 117) (ls' := [some (.ref 16), some (pw_i b), some (pw_i e), some (pw_i k43_3), some (.long (Int64.ofInt k43_4)), none, some (.long (Int64.ofInt k43_6)), none, some (pw_i k43_8), some (.long (Int64.ofInt (x40 * x44))), none, some (.long (Int64.ofInt x53)), none]) rfl rfl rfl rfl ?_
                        have hw : pv_nwc h b e (k43_8).toNat = x40 * x44 := by unfold pv_nwc; rw [show ((k43_8.toNat : Nat) : Int) = k43_8 by omega, ← hx40r, ← hx44r]
                        have hz : pv_nzc h (k43_8).toNat = x53 := by unfold pv_nzc; rw [← hx49r, ← hx53r]
                        refine pw_ld E (pc' := 118) (st' := [pw_i k43_3]) rfl (fun _ => rfl) ?_
                        refine pw_ld E (pc' := 119) (st' := [pw_i ((-1)), pw_i k43_3]) rfl (fun _ => rfl) ?_
                        refine pw_if2 E (pc' := 136) rfl (by decide) (by omega) (by omega) (by decide) (by decide) ?_ ?_
                        · intro hc54
                          change k43_3 = ((-1) : Int) at hc54
                          refine pw_ld E (pc' := 138) (st' := [pw_i k43_8]) rfl (fun _ => rfl) ?_
                          refine pw_istn E (pc' := 139) (ls' := [some (.ref 16), some (pw_i b), some (pw_i e), some (pw_i k43_8), some (.long (Int64.ofInt k43_4)), none, some (.long (Int64.ofInt k43_6)), none, some (pw_i k43_8), some (.long (Int64.ofInt (x40 * x44))), none, some (.long (Int64.ofInt x53)), none]) rfl rfl rfl rfl ?_
                          refine pw_ld E (pc' := 141) (st' := [.long (Int64.ofInt (x40 * x44))]) rfl (fun _ => rfl) ?_
                          refine pw_lst E (pc' := 143) (ls' := [some (.ref 16), some (pw_i b), some (pw_i e), some (pw_i k43_8), some (.long (Int64.ofInt (x40 * x44))), none, some (.long (Int64.ofInt k43_6)), none, some (pw_i k43_8), some (.long (Int64.ofInt (x40 * x44))), none, some (.long (Int64.ofInt x53)), none]) rfl rfl rfl rfl ?_
                          refine pw_ld E (pc' := 145) (st' := [.long (Int64.ofInt x53)]) rfl (fun _ => rfl) ?_
                          refine pw_lst E (pc' := 147) (ls' := [some (.ref 16), some (pw_i b), some (pw_i e), some (pw_i k43_8), some (.long (Int64.ofInt (x40 * x44))), none, some (.long (Int64.ofInt x53)), none, some (pw_i k43_8), some (.long (Int64.ofInt (x40 * x44))), none, some (.long (Int64.ofInt x53)), none]) rfl rfl rfl rfl ?_
                          have hnx := (pv_nxS (p := pv_np h b e) (w := pv_nwc h b e) (z := pv_nzc h) (by omega) hx43_0).1 (by rw [hw, hz]; omega)
                          rw [hw, hz] at hnx
                          refine pw_inc E (pc' := 150) (ls' := [some (.ref 16), some (pw_i b), some (pw_i e), some (pw_i k43_8), some (.long (Int64.ofInt (x40 * x44))), none, some (.long (Int64.ofInt x53)), none, some (pw_i (k43_8 + 1)), some (.long (Int64.ofInt (x40 * x44))), none, some (.long (Int64.ofInt x53)), none]) rfl rfl rfl rfl ?_
                          refine pw_goto E (pc' := 43) rfl (by decide) ?_
                          exact ih43 _ (by omega) (k43_8) (x40 * x44) (x53) (k43_8 + 1) (some (.long (Int64.ofInt (x40 * x44)))) (some (.long (Int64.ofInt x53)))  (by omega) (by omega) (by omega) (by omega) (by omega) (by omega) (by omega) (by omega) hnx rfl
                        · intro hc55
                          change ¬ (k43_3 = ((-1) : Int)) at hc55
                          refine pw_ld E (pc' := 124) (st' := [.long (Int64.ofInt (x40 * x44))]) rfl (fun _ => rfl) ?_
                          refine pw_ld E (pc' := 126) (st' := [.long (Int64.ofInt k43_6), .long (Int64.ofInt (x40 * x44))]) rfl (fun _ => rfl) ?_
                          have hm56 := pw_mulB (a := x40 * x44) (b := k43_6) (A := 198) (B := 24) (by omega) (by omega) (by omega) (by omega)
                          refine pw_lmul E (pc' := 127) rfl rfl ?_
                          refine pw_ld E (pc' := 129) (st' := [.long (Int64.ofInt k43_4), .long (Int64.ofInt ((x40 * x44) * k43_6))]) rfl (fun _ => rfl) ?_
                          refine pw_ld E (pc' := 131) (st' := [.long (Int64.ofInt x53), .long (Int64.ofInt k43_4), .long (Int64.ofInt ((x40 * x44) * k43_6))]) rfl (fun _ => rfl) ?_
                          have hm57 := pw_mulB (a := k43_4) (b := x53) (A := 198) (B := 24) (by omega) (by omega) (by omega) (by omega)
                          refine pw_lmul E (pc' := 132) rfl rfl ?_
                          refine pw_lcmpC E (pc' := 133) rfl rfl (by omega) (by omega) (by omega) (by omega) (fun c58 hc58 => ?_)
                          refine pw_if E (pc' := 147) rfl (by decide) (by omega) (by omega) ?_ ?_
                          · intro hc59
                            change c58 ≤ (0 : Int) at hc59
                            have hnx := (pv_nxS (p := pv_np h b e) (w := pv_nwc h b e) (z := pv_nzc h) (by omega) hx43_0).2 (by rw [hw, hz]; omega)
                            refine pw_inc E (pc' := 150) (ls' := [some (.ref 16), some (pw_i b), some (pw_i e), some (pw_i k43_3), some (.long (Int64.ofInt k43_4)), none, some (.long (Int64.ofInt k43_6)), none, some (pw_i (k43_8 + 1)), some (.long (Int64.ofInt (x40 * x44))), none, some (.long (Int64.ofInt x53)), none]) rfl rfl rfl rfl ?_
                            refine pw_goto E (pc' := 43) rfl (by decide) ?_
                            exact ih43 _ (by omega) (k43_3) (k43_4) (k43_6) (k43_8 + 1) (some (.long (Int64.ofInt (x40 * x44)))) (some (.long (Int64.ofInt x53)))  (by omega) (by omega) (by omega) (by omega) (by omega) (by omega) (by omega) (by omega) hnx rfl
                          · intro hc60
                            change ¬ (c58 ≤ (0 : Int)) at hc60
                            refine pw_ld E (pc' := 138) (st' := [pw_i k43_8]) rfl (fun _ => rfl) ?_
                            refine pw_istn E (pc' := 139) (ls' := [some (.ref 16), some (pw_i b), some (pw_i e), some (pw_i k43_8), some (.long (Int64.ofInt k43_4)), none, some (.long (Int64.ofInt k43_6)), none, some (pw_i k43_8), some (.long (Int64.ofInt (x40 * x44))), none, some (.long (Int64.ofInt x53)), none]) rfl rfl rfl rfl ?_
                            refine pw_ld E (pc' := 141) (st' := [.long (Int64.ofInt (x40 * x44))]) rfl (fun _ => rfl) ?_
                            refine pw_lst E (pc' := 143) (ls' := [some (.ref 16), some (pw_i b), some (pw_i e), some (pw_i k43_8), some (.long (Int64.ofInt (x40 * x44))), none, some (.long (Int64.ofInt k43_6)), none, some (pw_i k43_8), some (.long (Int64.ofInt (x40 * x44))), none, some (.long (Int64.ofInt x53)), none]) rfl rfl rfl rfl ?_
                            refine pw_ld E (pc' := 145) (st' := [.long (Int64.ofInt x53)]) rfl (fun _ => rfl) ?_
                            refine pw_lst E (pc' := 147) (ls' := [some (.ref 16), some (pw_i b), some (pw_i e), some (pw_i k43_8), some (.long (Int64.ofInt (x40 * x44))), none, some (.long (Int64.ofInt x53)), none, some (pw_i k43_8), some (.long (Int64.ofInt (x40 * x44))), none, some (.long (Int64.ofInt x53)), none]) rfl rfl rfl rfl ?_
                            have hnx := (pv_nxS (p := pv_np h b e) (w := pv_nwc h b e) (z := pv_nzc h) (by omega) hx43_0).1 (by rw [hw, hz]; omega)
                            rw [hw, hz] at hnx
                            refine pw_inc E (pc' := 150) (ls' := [some (.ref 16), some (pw_i b), some (pw_i e), some (pw_i k43_8), some (.long (Int64.ofInt (x40 * x44))), none, some (.long (Int64.ofInt x53)), none, some (pw_i (k43_8 + 1)), some (.long (Int64.ofInt (x40 * x44))), none, some (.long (Int64.ofInt x53)), none]) rfl rfl rfl rfl ?_
                            refine pw_goto E (pc' := 43) rfl (by decide) ?_
                            exact ih43 _ (by omega) (k43_8) (x40 * x44) (x53) (k43_8 + 1) (some (.long (Int64.ofInt (x40 * x44)))) (some (.long (Int64.ofInt x53)))  (by omega) (by omega) (by omega) (by omega) (by omega) (by omega) (by omega) (by omega) hnx rfl
                · skip
                  refine pw_if E (pc' := 147) rfl (by decide) (by omega) (by omega) ?_ ?_
                  · intro hc62
                    change x23 = (0 : Int) at hc62
                    have hnx := (pv_nxS (p := pv_np h b e) (w := pv_nwc h b e) (z := pv_nzc h) (by omega) hx43_0).2 (fun q => by have := q.1; omega)
                    refine pw_inc E (pc' := 150) (ls' := [some (.ref 16), some (pw_i b), some (pw_i e), some (pw_i k43_3), some (.long (Int64.ofInt k43_4)), none, some (.long (Int64.ofInt k43_6)), none, some (pw_i (k43_8 + 1)), k43_9, none, k43_11, none]) rfl rfl rfl rfl ?_
                    refine pw_goto E (pc' := 43) rfl (by decide) ?_
                    exact ih43 _ (by omega) (k43_3) (k43_4) (k43_6) (k43_8 + 1) k43_9 k43_11  (by omega) (by omega) (by omega) (by omega) (by omega) (by omega) (by omega) (by omega) hnx rfl
                  · intro hc63
                    change ¬ (x23 = (0 : Int)) at hc63
                    exfalso; omega
          exact L43 _ ((-1)) (0) (1) (0) (none) (none)  (by omega) (by omega) (by omega) (by omega) (by omega) (by omega) (by omega) (by omega) rfl rfl
        · intro hc64
          change ¬ (x16 ≠ (0 : Int)) at hc64
          refine pw_ld E (pc' := 31) (st' := [pw_i ((-1))]) rfl (fun _ => rfl) ?_
          refine pw_iret E rfl ?_
          exact ⟨rfl, ⟨_, rfl, by omega, by omega, Or.inr ⟨Or.inr (fun q => by have q1 := q.1; have q2 := q.2; omega), rfl⟩⟩⟩
  · skip
    refine pw_if E (pc' := 30) rfl (by decide) (by omega) (by omega) ?_ ?_
    · intro hc66
      change x3 = (0 : Int) at hc66
      refine pw_ld E (pc' := 31) (st' := [pw_i ((-1))]) rfl (fun _ => rfl) ?_
      refine pw_iret E rfl ?_
      exact ⟨rfl, ⟨_, rfl, by omega, by omega, Or.inr ⟨Or.inl (by omega), rfl⟩⟩⟩
    · intro hc67
      change ¬ (x3 = (0 : Int)) at hc67
      exfalso; omega
set_option maxHeartbeats 4000000 in
theorem cm_229_s {X : List (Nat × List Value)} {d : Nat} {h : pm_H} (hd : 5 ≤ d) (I : pw_I h) (b : Int) (hb1 : (-2147483648) ≤ b) (hb2 : b ≤ 2147483647) (e : Int) (he1 : (-2147483648) ≤ e) (he2 : e ≤ 2147483647) : pw X d h 229 0 [some (.ref 141), some (pw_i b), some (pw_i e), none, none, none, none, none, none, none, none, none, none, none] [] (fun h' v => pw_I h' ∧ pw_E [125] h h' ∧ ∃ a : Int, v = .inl (some (pw_i a)) ∧ (-2147483648) ≤ a ∧ a ≤ 2147483647 ∧ ((((0 ≤ b ∧ b ≤ 11 ∧ 0 ≤ e ∧ e ≤ 11 ∧ b ≠ e) ∧ pv_OK (pv_sdbm h)) ∧ a = (pv_nx (pv_npm h b e) (pv_nwm h b e) (pv_nzm h) 24).1) ∨ ((¬ (0 ≤ b ∧ b ≤ 11 ∧ 0 ≤ e ∧ e ≤ 11 ∧ b ≠ e) ∨ ¬ pv_OK (pv_sdbm h)) ∧ a = -1))) := by
  have E : pm_ent 229 = some (3, 14, 12, 0, pmc_229) := rfl
  have E0 : pw_E [125] h h := pw_E.rf _ _
  refine pw_ld E (pc' := 1) (st' := [.ref 141]) rfl (fun _ => rfl) ?_
  refine pw_ld E (pc' := 2) (st' := [pw_i 0, .ref 141]) rfl (fun _ => rfl) ?_
  refine pw_putI I E (c := 125) (k := 0) (pc' := 5) rfl rfl rfl rfl (by omega) (by omega) (by omega) (by omega) rfl rfl ?_
  intro h1I h1E
  generalize h1w : pw_w h 125 0 (pw_i 0) = h1 at h1I h1E ⊢
  have h1F := E0.tr (h1E.wk (W' := [125]) (by first | rfl | simp))
  refine pw_ld E (pc' := 6) (st' := [pw_i b]) rfl (fun _ => rfl) ?_
  refine pw_ld E (pc' := 7) (st' := [pw_i e, pw_i b]) rfl (fun _ => rfl) ?_
  refine pw_call (m' := 213) (As := [pw_i b, pw_i e]) (rest := []) (ls'' := [some (pw_i b), some (pw_i e)]) (Nat.le_trans (by decide) hd) E rfl (fun _ => pw_iS rfl rfl rfl) (rfl : pm_ent 213 = some (2, 2, 12, 1, pmc_213)) rfl rfl (cm_213_s (pw_dp hd (by decide)) h1I (b) (by omega) (by omega) (e) (by omega) (by omega)) ?_
  rintro u3 v2 ⟨rfl, x4, rfl, hx4a, hx4b, hx4r⟩
  refine ⟨_, rfl, ?_⟩
  show pw X d h1 229 10 [some (.ref 141), some (pw_i b), some (pw_i e), none, none, none, none, none, none, none, none, none, none, none] [pw_i x4] _
  change (x4 = 1 ∧ 0 ≤ b ∧ b ≤ 11 ∧ 0 ≤ e ∧ e ≤ 11 ∧ b ≠ e) ∨ (x4 = 0 ∧ ¬ (0 ≤ b ∧ b ≤ 11 ∧ 0 ≤ e ∧ e ≤ 11 ∧ b ≠ e)) at hx4r
  rcases (by omega : x4 = 1 ∨ x4 = 0) with hb5 | hb5
  · skip
    refine pw_if E (pc' := 23) rfl (by decide) (by omega) (by omega) ?_ ?_
    · intro hc6
      change x4 = (0 : Int) at hc6
      exfalso; omega
    · intro hc7
      change ¬ (x4 = (0 : Int)) at hc7
      refine pw_ld E (pc' := 14) (st' := [.ref 141]) rfl (fun _ => rfl) ?_
      refine pw_ld E (pc' := 15) (st' := [pw_i b, .ref 141]) rfl (fun _ => rfl) ?_
      refine pw_ld E (pc' := 16) (st' := [pw_i e, pw_i b, .ref 141]) rfl (fun _ => rfl) ?_
      refine pw_ld E (pc' := 17) (st' := [pw_i 1, pw_i e, pw_i b, .ref 141]) rfl (fun _ => rfl) ?_
      obtain ⟨f8l, f8h, -⟩ := pw_obj (c := 125) h1I rfl
      refine pw_call (m' := 226) (As := [.ref 141, pw_i b, pw_i e, pw_i 1]) (rest := []) (ls'' := [some (.ref 141), some (pw_i b), some (pw_i e), some (pw_i 1), none]) (Nat.le_trans (by decide) hd) E rfl (fun _ => pw_iV rfl rfl rfl rfl (pw_cellI f8h rfl)) (rfl : pm_ent 226 = some (4, 5, 12, 1, pmc_226)) rfl rfl (cm_226_s (pw_dp hd (by decide)) h1I (b) (by omega) (by omega) (e) (by omega) (by omega) (1) (by omega) (by omega) (by omega)) ?_
      rintro h9 v10 ⟨h9I, h9E, x11, rfl, hx11a, hx11b, hx11r⟩
      refine ⟨_, rfl, ?_⟩
      have h9F := h1F.tr (h9E.wk (W' := [125]) (by first | rfl | simp))
      show pw X d h9 229 20 [some (.ref 141), some (pw_i b), some (pw_i e), none, none, none, none, none, none, none, none, none, none, none] [pw_i x11] _
      change ((x11 = 1 ∧ pv_OK (pv_sdbm h1)) ∨ (x11 = 0 ∧ ¬ pv_OK (pv_sdbm h1))) ∧ pw_gm h9 125 24 = pv_U (pv_sdbm h1) (pv_chbm h1 1 b e) ∧ pw_gm h9 125 25 = pv_D (pv_sdbm h1) ∧ pw_gm h9 125 26 = pv_S (pv_sdbm h1) (pv_chbm h1 1 b e) 0 24 ∧ pw_gm h9 125 27 = pv_N (pv_sdbm h1) 0 24 ∧ pw_gm h9 125 28 = pv_S (pv_sdbm h1) (pv_chbm h1 1 b e) 1 24 ∧ pw_gm h9 125 29 = pv_N (pv_sdbm h1) 1 24 at hx11r
      rcases (by omega : x11 = 1 ∨ x11 = 0) with hb12 | hb12
      · skip
        refine pw_if E (pc' := 25) rfl (by decide) (by omega) (by omega) ?_ ?_
        · intro hc13
          change x11 ≠ (0 : Int) at hc13
          rw [pv_sdbmE I h1F rfl, pv_chbmE I h1F rfl] at hx11r
          obtain ⟨r1, -, -, -, r27, -, r29⟩ := hx11r
          have hok := (r1.resolve_right (fun q => by have := q.1; omega)).2
          have nb0 := pv_NB (sd := pv_sdbm h) (s := 0) 24
          have nb1 := pv_NB (sd := pv_sdbm h) (s := 1) 24
          refine pw_ld E (pc' := 26) (st' := [pw_i ((-1))]) rfl (fun _ => rfl) ?_
          refine pw_istn E (pc' := 27) (ls' := [some (.ref 141), some (pw_i b), some (pw_i e), some (pw_i ((-1))), none, none, none, none, none, none, none, none, none, none]) rfl rfl rfl rfl ?_
          refine pw_ld E (pc' := 28) (st' := [.long (Int64.ofInt 0)]) rfl (fun _ => rfl) ?_
          refine pw_lst E (pc' := 30) (ls' := [some (.ref 141), some (pw_i b), some (pw_i e), some (pw_i ((-1))), some (.long (Int64.ofInt 0)), none, none, none, none, none, none, none, none, none]) rfl rfl rfl rfl ?_
          refine pw_ld E (pc' := 31) (st' := [.long (Int64.ofInt 1)]) rfl (fun _ => rfl) ?_
          refine pw_lst E (pc' := 33) (ls' := [some (.ref 141), some (pw_i b), some (pw_i e), some (pw_i ((-1))), some (.long (Int64.ofInt 0)), none, some (.long (Int64.ofInt 1)), none, none, none, none, none, none, none]) rfl rfl rfl rfl ?_
          refine pw_ld E (pc' := 34) (st' := [pw_i 0]) rfl (fun _ => rfl) ?_
          refine pw_ist E (pc' := 36) (ls' := [some (.ref 141), some (pw_i b), some (pw_i e), some (pw_i ((-1))), some (.long (Int64.ofInt 0)), none, some (.long (Int64.ofInt 1)), none, some (pw_i 0), none, none, none, none, none]) rfl rfl rfl rfl ?_
          have L36 : ∀ (n36 : Nat) (k36_3 : Int) (k36_4 : Int) (k36_6 : Int) (k36_8 : Int) (k36_9 : Option Value) (k36_10 : Option Value) (k36_12 : Option Value), (-1) ≤ k36_3 → k36_3 ≤ 23 → 0 ≤ k36_4 → k36_4 ≤ 198 → 0 ≤ k36_6 → k36_6 ≤ 24 → 0 ≤ k36_8 → k36_8 ≤ 24 → pv_nx (pv_npm h b e) (pv_nwm h b e) (pv_nzm h) (k36_8).toNat = (k36_3, k36_4, k36_6) → (24 - k36_8).toNat = n36 → pw X d h9 229 36 [some (.ref 141), some (pw_i b), some (pw_i e), some (pw_i k36_3), some (.long (Int64.ofInt k36_4)), none, some (.long (Int64.ofInt k36_6)), none, some (pw_i k36_8), k36_9, k36_10, none, k36_12, none] [] (fun h' v => pw_I h' ∧ pw_E [125] h h' ∧ ∃ a : Int, v = .inl (some (pw_i a)) ∧ (-2147483648) ≤ a ∧ a ≤ 2147483647 ∧ ((((0 ≤ b ∧ b ≤ 11 ∧ 0 ≤ e ∧ e ≤ 11 ∧ b ≠ e) ∧ pv_OK (pv_sdbm h)) ∧ a = (pv_nx (pv_npm h b e) (pv_nwm h b e) (pv_nzm h) 24).1) ∨ ((¬ (0 ≤ b ∧ b ≤ 11 ∧ 0 ≤ e ∧ e ≤ 11 ∧ b ≠ e) ∨ ¬ pv_OK (pv_sdbm h)) ∧ a = -1))) := by
            intro n36
            induction n36 using Nat.strongRecOn with
            | ind n36 ih36 =>
              intro k36_3 k36_4 k36_6 k36_8 k36_9 k36_10 k36_12 k36_3a k36_3b k36_4a k36_4b k36_6a k36_6b k36_8a k36_8b hx36_0 hm36
              refine pw_ld E (pc' := 38) (st' := [pw_i k36_8]) rfl (fun _ => rfl) ?_
              refine pw_bip E (pc' := 40) rfl rfl (by decide) ?_
              refine pw_if2 E (pc' := 179) rfl (by decide) (by omega) (by omega) (by decide) (by decide) ?_ ?_
              · intro hc14
                change (24 : Int) ≤ k36_8 at hc14
                refine pw_ld E (pc' := 180) (st' := [pw_i k36_3]) rfl (fun _ => rfl) ?_
                refine pw_iret E rfl ?_
                rw [show (k36_8).toNat = 24 by omega] at hx36_0
                exact ⟨h9I, h9F, ⟨_, rfl, by omega, by omega, Or.inl ⟨⟨by omega, hok⟩, (congrArg Prod.fst hx36_0).symm⟩⟩⟩
              · intro hc15
                change ¬ ((24 : Int) ≤ k36_8) at hc15
                have q1 : pw_g h9 131 (k36_8).toNat = pw_g h 131 (k36_8).toNat := pw_Eg (c := 131) I h9F rfl rfl _
                have q4 : pw_g h9 132 (k36_8).toNat = pw_g h 132 (k36_8).toNat := pw_Eg (c := 132) I h9F rfl rfl _
                have q6 : pw_g h9 134 (k36_8).toNat = pw_g h 134 (k36_8).toNat := pw_Eg (c := 134) I h9F rfl rfl _
                have qb : pw_g h9 138 (12 * k36_8 + b).toNat = pw_g h 138 (12 * k36_8 + b).toNat := pw_Eg (c := 138) I h9F rfl rfl _
                have qe : pw_g h9 138 (12 * k36_8 + e).toNat = pw_g h 138 (12 * k36_8 + e).toNat := pw_Eg (c := 138) I h9F rfl rfl _
                have op := pv_npm_I (h := h) (b := b) (e := e) (k := k36_8) (by omega)
                refine pw_ld E (pc' := 44) (st' := [.ref 141]) rfl (fun _ => rfl) ?_
                refine pw_getR (b := 147) h9I E (c := 125) (k := 10) (pc' := 47) rfl rfl rfl rfl rfl rfl rfl ?_
                refine pw_ld E (pc' := 49) (st' := [pw_i k36_8, .ref 147]) rfl (fun _ => rfl) ?_
                refine pw_ald2 h9I E (c := 131) (pc' := 50) rfl rfl rfl (by decide) rfl (by decide) (by omega) (by omega) rfl (fun hf16a hf16b => ?_)
                refine pw_if E (pc' := 173) rfl (by decide) (by omega) (by omega) ?_ ?_
                · intro hc17
                  change pw_g h9 131 (k36_8.toNat) = (0 : Int) at hc17
                  have hnx := (pv_nxS (p := pv_npm h b e) (w := pv_nwm h b e) (z := pv_nzm h) (by omega) hx36_0).2 (fun q => by have := q.1; omega)
                  refine pw_inc E (pc' := 176) (ls' := [some (.ref 141), some (pw_i b), some (pw_i e), some (pw_i k36_3), some (.long (Int64.ofInt k36_4)), none, some (.long (Int64.ofInt k36_6)), none, some (pw_i (k36_8 + 1)), k36_9, k36_10, none, k36_12, none]) rfl rfl rfl rfl ?_
                  refine pw_goto E (pc' := 36) rfl (by decide) ?_
                  exact ih36 _ (by omega) (k36_3) (k36_4) (k36_6) (k36_8 + 1) k36_9 k36_10 k36_12  (by omega) (by omega) (by omega) (by omega) (by omega) (by omega) (by omega) (by omega) hnx rfl
                · intro hc18
                  change ¬ (pw_g h9 131 (k36_8.toNat) = (0 : Int)) at hc18
                  refine pw_ld E (pc' := 54) (st' := [.ref 141]) rfl (fun _ => rfl) ?_
                  refine pw_ld E (pc' := 56) (st' := [pw_i k36_8, .ref 141]) rfl (fun _ => rfl) ?_
                  refine pw_ld E (pc' := 57) (st' := [pw_i b, pw_i k36_8, .ref 141]) rfl (fun _ => rfl) ?_
                  refine pw_ld E (pc' := 58) (st' := [pw_i e, pw_i b, pw_i k36_8, .ref 141]) rfl (fun _ => rfl) ?_
                  obtain ⟨f19l, f19h, -⟩ := pw_obj (c := 125) h9I rfl
                  refine pw_call (m' := 214) (As := [.ref 141, pw_i k36_8, pw_i b, pw_i e]) (rest := []) (ls'' := [some (.ref 141), some (pw_i k36_8), some (pw_i b), some (pw_i e)]) (Nat.le_trans (by decide) hd) E rfl (fun _ => pw_iV rfl rfl rfl rfl (pw_cellI f19h rfl)) (rfl : pm_ent 214 = some (4, 4, 12, 1, pmc_214)) rfl rfl (cm_214_s (pw_dp hd (by decide)) h9I (k36_8) (by omega) (by omega) (b) (by omega) (by omega) (e) (by omega) (by omega)) ?_
                  rintro u21 v20 ⟨rfl, x22, rfl, hx22a, hx22b, hx22r⟩
                  refine ⟨_, rfl, ?_⟩
                  show pw X d h9 229 61 [some (.ref 141), some (pw_i b), some (pw_i e), some (pw_i k36_3), some (.long (Int64.ofInt k36_4)), none, some (.long (Int64.ofInt k36_6)), none, some (pw_i k36_8), k36_9, k36_10, none, k36_12, none] [pw_i x22] _
                  change (x22 = 1 ∧ pw_g h9 131 k36_8.toNat ≠ 0 ∧ pw_g h9 138 (12 * k36_8 + b).toNat ≠ 0 ∧ pw_g h9 138 (12 * k36_8 + e).toNat ≠ 0) ∨ (x22 = 0 ∧ ¬ (pw_g h9 131 k36_8.toNat ≠ 0 ∧ pw_g h9 138 (12 * k36_8 + b).toNat ≠ 0 ∧ pw_g h9 138 (12 * k36_8 + e).toNat ≠ 0)) at hx22r
                  rcases (by omega : x22 = 1 ∨ x22 = 0) with hb23 | hb23
                  · skip
                    refine pw_if E (pc' := 173) rfl (by decide) (by omega) (by omega) ?_ ?_
                    · intro hc24
                      change x22 ≠ (0 : Int) at hc24
                      have hnx := (pv_nxS (p := pv_npm h b e) (w := pv_nwm h b e) (z := pv_nzm h) (by omega) hx36_0).2 (fun q => by have := q.1; omega)
                      refine pw_inc E (pc' := 176) (ls' := [some (.ref 141), some (pw_i b), some (pw_i e), some (pw_i k36_3), some (.long (Int64.ofInt k36_4)), none, some (.long (Int64.ofInt k36_6)), none, some (pw_i (k36_8 + 1)), k36_9, k36_10, none, k36_12, none]) rfl rfl rfl rfl ?_
                      refine pw_goto E (pc' := 36) rfl (by decide) ?_
                      exact ih36 _ (by omega) (k36_3) (k36_4) (k36_6) (k36_8 + 1) k36_9 k36_10 k36_12  (by omega) (by omega) (by omega) (by omega) (by omega) (by omega) (by omega) (by omega) hnx rfl
                    · intro hc25
                      change ¬ (x22 ≠ (0 : Int)) at hc25
                      exfalso; omega
                  · skip
                    refine pw_if E (pc' := 173) rfl (by decide) (by omega) (by omega) ?_ ?_
                    · intro hc27
                      change x22 ≠ (0 : Int) at hc27
                      exfalso; omega
                    · intro hc28
                      change ¬ (x22 ≠ (0 : Int)) at hc28
                      refine pw_ld E (pc' := 65) (st' := [.ref 141]) rfl (fun _ => rfl) ?_
                      refine pw_getR (b := 154) h9I E (c := 125) (k := 18) (pc' := 68) rfl rfl rfl rfl rfl rfl rfl ?_
                      refine pw_bip E (pc' := 70) rfl rfl (by decide) ?_
                      refine pw_ld E (pc' := 72) (st' := [pw_i k36_8, pw_i 12, .ref 154]) rfl (fun _ => rfl) ?_
                      refine pw_mul E (pc' := 73) rfl rfl ?_
                      refine pw_ld E (pc' := 74) (st' := [pw_i b, pw_i (12 * k36_8), .ref 154]) rfl (fun _ => rfl) ?_
                      refine pw_add E (pc' := 75) rfl rfl ?_
                      refine pw_ald2 h9I E (c := 138) (pc' := 76) rfl rfl rfl (by decide) rfl (by decide) (by omega) (by omega) rfl (fun hf29a hf29b => ?_)
                      refine pw_if E (pc' := 83) rfl (by decide) (by omega) (by omega) ?_ ?_
                      · intro hc30
                        change pw_g h9 138 (((12 * k36_8) + b).toNat) ≠ (0 : Int) at hc30
                        refine pw_ld E (pc' := 84) (st' := [pw_i 0]) rfl (fun _ => rfl) ?_
                        refine pw_ld E (pc' := 85) (st' := [.ref 141, pw_i 0]) rfl (fun _ => rfl) ?_
                        refine pw_getR (b := 154) h9I E (c := 125) (k := 18) (pc' := 88) rfl rfl rfl rfl rfl rfl rfl ?_
                        refine pw_bip E (pc' := 90) rfl rfl (by decide) ?_
                        refine pw_ld E (pc' := 92) (st' := [pw_i k36_8, pw_i 12, .ref 154, pw_i 0]) rfl (fun _ => rfl) ?_
                        refine pw_mul E (pc' := 93) rfl rfl ?_
                        refine pw_ld E (pc' := 94) (st' := [pw_i e, pw_i (12 * k36_8), .ref 154, pw_i 0]) rfl (fun _ => rfl) ?_
                        refine pw_add E (pc' := 95) rfl rfl ?_
                        refine pw_ald2 h9I E (c := 138) (pc' := 96) rfl rfl rfl (by decide) rfl (by decide) (by omega) (by omega) rfl (fun hf31a hf31b => ?_)
                        refine pw_if E (pc' := 103) rfl (by decide) (by omega) (by omega) ?_ ?_
                        · intro hc32
                          change pw_g h9 138 (((12 * k36_8) + e).toNat) ≠ (0 : Int) at hc32
                          refine pw_ld E (pc' := 104) (st' := [pw_i 0, pw_i 0]) rfl (fun _ => rfl) ?_
                          refine pw_add E (pc' := 105) rfl rfl ?_
                          refine pw_ist E (pc' := 107) (ls' := [some (.ref 141), some (pw_i b), some (pw_i e), some (pw_i k36_3), some (.long (Int64.ofInt k36_4)), none, some (.long (Int64.ofInt k36_6)), none, some (pw_i k36_8), some (pw_i (0 + 0)), k36_10, none, k36_12, none]) rfl rfl rfl rfl ?_
                          refine pw_ld E (pc' := 108) (st' := [.ref 141]) rfl (fun _ => rfl) ?_
                          refine pw_getR (b := 150) h9I E (c := 125) (k := 13) (pc' := 111) rfl rfl rfl rfl rfl rfl rfl ?_
                          refine pw_ld E (pc' := 113) (st' := [pw_i k36_8, .ref 150]) rfl (fun _ => rfl) ?_
                          refine pw_ald2 h9I E (c := 134) (pc' := 114) rfl rfl rfl (by decide) rfl (by decide) (by omega) (by omega) rfl (fun hf33a hf33b => ?_)
                          refine pw_i2l E (pc' := 115) rfl rfl (by omega) (by omega) ?_
                          refine pw_ld E (pc' := 117) (st' := [pw_i (0 + 0), .long (Int64.ofInt (pw_g h9 134 (k36_8.toNat)))]) rfl (fun _ => rfl) ?_
                          refine pw_i2l E (pc' := 118) rfl rfl (by decide) (by decide) ?_
                          refine pw_lmul E (pc' := 119) rfl rfl ?_
                          refine pw_lst E (pc' := 121) (ls' := [some (.ref 141), some (pw_i b), some (pw_i e), some (pw_i k36_3), some (.long (Int64.ofInt k36_4)), none, some (.long (Int64.ofInt k36_6)), none, some (pw_i k36_8), some (pw_i (0 + 0)), some (.long (Int64.ofInt ((pw_g h9 134 (k36_8.toNat)) * (0 + 0)))), none, k36_12, none]) rfl rfl rfl rfl ?_
                          refine pw_ld E (pc' := 122) (st' := [.ref 141]) rfl (fun _ => rfl) ?_
                          refine pw_getR (b := 148) h9I E (c := 125) (k := 11) (pc' := 125) rfl rfl rfl rfl rfl rfl rfl ?_
                          refine pw_ld E (pc' := 127) (st' := [pw_i k36_8, .ref 148]) rfl (fun _ => rfl) ?_
                          refine pw_ald2 h9I E (c := 132) (pc' := 128) rfl rfl rfl (by decide) rfl (by decide) (by omega) (by omega) rfl (fun hf34a hf34b => ?_)
                          refine pw_if E (pc' := 138) rfl (by decide) (by omega) (by omega) ?_ ?_
                          · intro hc35
                            change pw_g h9 132 (k36_8.toNat) ≠ (0 : Int) at hc35
                            refine pw_ld E (pc' := 139) (st' := [.ref 141]) rfl (fun _ => rfl) ?_
                            refine pw_getM h9I E (c := 125) (k := 29) (pc' := 142) rfl rfl rfl rfl rfl rfl (fun hf36a hf36b => ?_)
                            refine pw_lst E (pc' := 144) (ls' := [some (.ref 141), some (pw_i b), some (pw_i e), some (pw_i k36_3), some (.long (Int64.ofInt k36_4)), none, some (.long (Int64.ofInt k36_6)), none, some (pw_i k36_8), some (pw_i (0 + 0)), some (.long (Int64.ofInt ((pw_g h9 134 (k36_8.toNat)) * (0 + 0)))), none, some (.long (Int64.ofInt (pw_gm h9 125 29))), none]) rfl rfl rfl rfl ?_
                            have ib := pv_ite1 (p := pw_g h 138 (12 * k36_8 + b).toNat = 0)
                            have ie := pv_ite1 (p := pw_g h 138 (12 * k36_8 + e).toNat = 0)
                            have hsa : pv_sam h b e k36_8 = 0 + 0 := by unfold pv_sam; omega
                            have hw : pv_nwm h b e (k36_8).toNat = (pw_g h9 134 (k36_8.toNat)) * (0 + 0) := by unfold pv_nwm; rw [show ((k36_8.toNat : Nat) : Int) = k36_8 by omega, hsa, q6]
                            have hz : pv_nzm h (k36_8).toNat = pw_gm h9 125 29 := by unfold pv_nzm; rw [show pw_g h 132 (k36_8).toNat = 1 by omega]; omega
                            clear ib ie
                            refine pw_ld E (pc' := 145) (st' := [pw_i k36_3]) rfl (fun _ => rfl) ?_
                            refine pw_if E (pc' := 162) rfl (by decide) (by omega) (by omega) ?_ ?_
                            · intro hc37
                              change k36_3 < (0 : Int) at hc37
                              refine pw_ld E (pc' := 164) (st' := [pw_i k36_8]) rfl (fun _ => rfl) ?_
                              refine pw_istn E (pc' := 165) (ls' := [some (.ref 141), some (pw_i b), some (pw_i e), some (pw_i k36_8), some (.long (Int64.ofInt k36_4)), none, some (.long (Int64.ofInt k36_6)), none, some (pw_i k36_8), some (pw_i (0 + 0)), some (.long (Int64.ofInt ((pw_g h9 134 (k36_8.toNat)) * (0 + 0)))), none, some (.long (Int64.ofInt (pw_gm h9 125 29))), none]) rfl rfl rfl rfl ?_
                              refine pw_ld E (pc' := 167) (st' := [.long (Int64.ofInt ((pw_g h9 134 (k36_8.toNat)) * (0 + 0)))]) rfl (fun _ => rfl) ?_
                              refine pw_lst E (pc' := 169) (ls' := [some (.ref 141), some (pw_i b), some (pw_i e), some (pw_i k36_8), some (.long (Int64.ofInt ((pw_g h9 134 (k36_8.toNat)) * (0 + 0)))), none, some (.long (Int64.ofInt k36_6)), none, some (pw_i k36_8), some (pw_i (0 + 0)), some (.long (Int64.ofInt ((pw_g h9 134 (k36_8.toNat)) * (0 + 0)))), none, some (.long (Int64.ofInt (pw_gm h9 125 29))), none]) rfl rfl rfl rfl ?_
                              refine pw_ld E (pc' := 171) (st' := [.long (Int64.ofInt (pw_gm h9 125 29))]) rfl (fun _ => rfl) ?_
                              refine pw_lst E (pc' := 173) (ls' := [some (.ref 141), some (pw_i b), some (pw_i e), some (pw_i k36_8), some (.long (Int64.ofInt ((pw_g h9 134 (k36_8.toNat)) * (0 + 0)))), none, some (.long (Int64.ofInt (pw_gm h9 125 29))), none, some (pw_i k36_8), some (pw_i (0 + 0)), some (.long (Int64.ofInt ((pw_g h9 134 (k36_8.toNat)) * (0 + 0)))), none, some (.long (Int64.ofInt (pw_gm h9 125 29))), none]) rfl rfl rfl rfl ?_
                              have hnx := (pv_nxS (p := pv_npm h b e) (w := pv_nwm h b e) (z := pv_nzm h) (by omega) hx36_0).1 (by rw [hw, hz]; omega)
                              rw [hw, hz] at hnx
                              refine pw_inc E (pc' := 176) (ls' := [some (.ref 141), some (pw_i b), some (pw_i e), some (pw_i k36_8), some (.long (Int64.ofInt ((pw_g h9 134 (k36_8.toNat)) * (0 + 0)))), none, some (.long (Int64.ofInt (pw_gm h9 125 29))), none, some (pw_i (k36_8 + 1)), some (pw_i (0 + 0)), some (.long (Int64.ofInt ((pw_g h9 134 (k36_8.toNat)) * (0 + 0)))), none, some (.long (Int64.ofInt (pw_gm h9 125 29))), none]) rfl rfl rfl rfl ?_
                              refine pw_goto E (pc' := 36) rfl (by decide) ?_
                              exact ih36 _ (by omega) (k36_8) ((pw_g h9 134 (k36_8.toNat)) * (0 + 0)) (pw_gm h9 125 29) (k36_8 + 1) (some (pw_i (0 + 0))) (some (.long (Int64.ofInt ((pw_g h9 134 (k36_8.toNat)) * (0 + 0))))) (some (.long (Int64.ofInt (pw_gm h9 125 29))))  (by omega) (by omega) (by omega) (by omega) (by omega) (by omega) (by omega) (by omega) hnx rfl
                            · intro hc38
                              change ¬ (k36_3 < (0 : Int)) at hc38
                              refine pw_ld E (pc' := 150) (st' := [.long (Int64.ofInt ((pw_g h9 134 (k36_8.toNat)) * (0 + 0)))]) rfl (fun _ => rfl) ?_
                              refine pw_ld E (pc' := 152) (st' := [.long (Int64.ofInt k36_6), .long (Int64.ofInt ((pw_g h9 134 (k36_8.toNat)) * (0 + 0)))]) rfl (fun _ => rfl) ?_
                              refine pw_lmul E (pc' := 153) rfl rfl ?_
                              refine pw_ld E (pc' := 155) (st' := [.long (Int64.ofInt k36_4), .long (Int64.ofInt (((pw_g h9 134 (k36_8.toNat)) * (0 + 0)) * k36_6))]) rfl (fun _ => rfl) ?_
                              refine pw_ld E (pc' := 157) (st' := [.long (Int64.ofInt (pw_gm h9 125 29)), .long (Int64.ofInt k36_4), .long (Int64.ofInt (((pw_g h9 134 (k36_8.toNat)) * (0 + 0)) * k36_6))]) rfl (fun _ => rfl) ?_
                              have hm39 := pw_mulB (a := k36_4) (b := pw_gm h9 125 29) (A := 198) (B := 24) (by omega) (by omega) (by omega) (by omega)
                              refine pw_lmul E (pc' := 158) rfl rfl ?_
                              refine pw_lcmpC E (pc' := 159) rfl rfl (by omega) (by omega) (by omega) (by omega) (fun c40 hc40 => ?_)
                              refine pw_if E (pc' := 173) rfl (by decide) (by omega) (by omega) ?_ ?_
                              · intro hc41
                                change c40 ≤ (0 : Int) at hc41
                                have hnx := (pv_nxS (p := pv_npm h b e) (w := pv_nwm h b e) (z := pv_nzm h) (by omega) hx36_0).2 (by rw [hw, hz]; omega)
                                refine pw_inc E (pc' := 176) (ls' := [some (.ref 141), some (pw_i b), some (pw_i e), some (pw_i k36_3), some (.long (Int64.ofInt k36_4)), none, some (.long (Int64.ofInt k36_6)), none, some (pw_i (k36_8 + 1)), some (pw_i (0 + 0)), some (.long (Int64.ofInt ((pw_g h9 134 (k36_8.toNat)) * (0 + 0)))), none, some (.long (Int64.ofInt (pw_gm h9 125 29))), none]) rfl rfl rfl rfl ?_
                                refine pw_goto E (pc' := 36) rfl (by decide) ?_
                                exact ih36 _ (by omega) (k36_3) (k36_4) (k36_6) (k36_8 + 1) (some (pw_i (0 + 0))) (some (.long (Int64.ofInt ((pw_g h9 134 (k36_8.toNat)) * (0 + 0))))) (some (.long (Int64.ofInt (pw_gm h9 125 29))))  (by omega) (by omega) (by omega) (by omega) (by omega) (by omega) (by omega) (by omega) hnx rfl
                              · intro hc42
                                change ¬ (c40 ≤ (0 : Int)) at hc42
                                exfalso; omega
                          · intro hc43
                            change ¬ (pw_g h9 132 (k36_8.toNat) ≠ (0 : Int)) at hc43
                            refine pw_ld E (pc' := 132) (st' := [.ref 141]) rfl (fun _ => rfl) ?_
                            refine pw_getM h9I E (c := 125) (k := 27) (pc' := 135) rfl rfl rfl rfl rfl rfl (fun hf44a hf44b => ?_)
                            refine pw_goto E (pc' := 142) rfl (by decide) ?_
                            refine pw_lst E (pc' := 144) (ls' := [some (.ref 141), some (pw_i b), some (pw_i e), some (pw_i k36_3), some (.long (Int64.ofInt k36_4)), none, some (.long (Int64.ofInt k36_6)), none, some (pw_i k36_8), some (pw_i (0 + 0)), some (.long (Int64.ofInt ((pw_g h9 134 (k36_8.toNat)) * (0 + 0)))), none, some (.long (Int64.ofInt (pw_gm h9 125 27))), none]) rfl rfl rfl rfl ?_
                            have ib := pv_ite1 (p := pw_g h 138 (12 * k36_8 + b).toNat = 0)
                            have ie := pv_ite1 (p := pw_g h 138 (12 * k36_8 + e).toNat = 0)
                            have hsa : pv_sam h b e k36_8 = 0 + 0 := by unfold pv_sam; omega
                            have hw : pv_nwm h b e (k36_8).toNat = (pw_g h9 134 (k36_8.toNat)) * (0 + 0) := by unfold pv_nwm; rw [show ((k36_8.toNat : Nat) : Int) = k36_8 by omega, hsa, q6]
                            have hz : pv_nzm h (k36_8).toNat = pw_gm h9 125 27 := by unfold pv_nzm; rw [show pw_g h 132 (k36_8).toNat = 0 by omega]; omega
                            clear ib ie
                            refine pw_ld E (pc' := 145) (st' := [pw_i k36_3]) rfl (fun _ => rfl) ?_
                            refine pw_if E (pc' := 162) rfl (by decide) (by omega) (by omega) ?_ ?_
                            · intro hc45
                              change k36_3 < (0 : Int) at hc45
                              refine pw_ld E (pc' := 164) (st' := [pw_i k36_8]) rfl (fun _ => rfl) ?_
                              refine pw_istn E (pc' := 165) (ls' := [some (.ref 141), some (pw_i b), some (pw_i e), some (pw_i k36_8), some (.long (Int64.ofInt k36_4)), none, some (.long (Int64.ofInt k36_6)), none, some (pw_i k36_8), some (pw_i (0 + 0)), some (.long (Int64.ofInt ((pw_g h9 134 (k36_8.toNat)) * (0 + 0)))), none, some (.long (Int64.ofInt (pw_gm h9 125 27))), none]) rfl rfl rfl rfl ?_
                              refine pw_ld E (pc' := 167) (st' := [.long (Int64.ofInt ((pw_g h9 134 (k36_8.toNat)) * (0 + 0)))]) rfl (fun _ => rfl) ?_
                              refine pw_lst E (pc' := 169) (ls' := [some (.ref 141), some (pw_i b), some (pw_i e), some (pw_i k36_8), some (.long (Int64.ofInt ((pw_g h9 134 (k36_8.toNat)) * (0 + 0)))), none, some (.long (Int64.ofInt k36_6)), none, some (pw_i k36_8), some (pw_i (0 + 0)), some (.long (Int64.ofInt ((pw_g h9 134 (k36_8.toNat)) * (0 + 0)))), none, some (.long (Int64.ofInt (pw_gm h9 125 27))), none]) rfl rfl rfl rfl ?_
                              refine pw_ld E (pc' := 171) (st' := [.long (Int64.ofInt (pw_gm h9 125 27))]) rfl (fun _ => rfl) ?_
                              refine pw_lst E (pc' := 173) (ls' := [some (.ref 141), some (pw_i b), some (pw_i e), some (pw_i k36_8), some (.long (Int64.ofInt ((pw_g h9 134 (k36_8.toNat)) * (0 + 0)))), none, some (.long (Int64.ofInt (pw_gm h9 125 27))), none, some (pw_i k36_8), some (pw_i (0 + 0)), some (.long (Int64.ofInt ((pw_g h9 134 (k36_8.toNat)) * (0 + 0)))), none, some (.long (Int64.ofInt (pw_gm h9 125 27))), none]) rfl rfl rfl rfl ?_
                              have hnx := (pv_nxS (p := pv_npm h b e) (w := pv_nwm h b e) (z := pv_nzm h) (by omega) hx36_0).1 (by rw [hw, hz]; omega)
                              rw [hw, hz] at hnx
                              refine pw_inc E (pc' := 176) (ls' := [some (.ref 141), some (pw_i b), some (pw_i e), some (pw_i k36_8), some (.long (Int64.ofInt ((pw_g h9 134 (k36_8.toNat)) * (0 + 0)))), none, some (.long (Int64.ofInt (pw_gm h9 125 27))), none, some (pw_i (k36_8 + 1)), some (pw_i (0 + 0)), some (.long (Int64.ofInt ((pw_g h9 134 (k36_8.toNat)) * (0 + 0)))), none, some (.long (Int64.ofInt (pw_gm h9 125 27))), none]) rfl rfl rfl rfl ?_
                              refine pw_goto E (pc' := 36) rfl (by decide) ?_
                              exact ih36 _ (by omega) (k36_8) ((pw_g h9 134 (k36_8.toNat)) * (0 + 0)) (pw_gm h9 125 27) (k36_8 + 1) (some (pw_i (0 + 0))) (some (.long (Int64.ofInt ((pw_g h9 134 (k36_8.toNat)) * (0 + 0))))) (some (.long (Int64.ofInt (pw_gm h9 125 27))))  (by omega) (by omega) (by omega) (by omega) (by omega) (by omega) (by omega) (by omega) hnx rfl
                            · intro hc46
                              change ¬ (k36_3 < (0 : Int)) at hc46
                              refine pw_ld E (pc' := 150) (st' := [.long (Int64.ofInt ((pw_g h9 134 (k36_8.toNat)) * (0 + 0)))]) rfl (fun _ => rfl) ?_
                              refine pw_ld E (pc' := 152) (st' := [.long (Int64.ofInt k36_6), .long (Int64.ofInt ((pw_g h9 134 (k36_8.toNat)) * (0 + 0)))]) rfl (fun _ => rfl) ?_
                              refine pw_lmul E (pc' := 153) rfl rfl ?_
                              refine pw_ld E (pc' := 155) (st' := [.long (Int64.ofInt k36_4), .long (Int64.ofInt (((pw_g h9 134 (k36_8.toNat)) * (0 + 0)) * k36_6))]) rfl (fun _ => rfl) ?_
                              refine pw_ld E (pc' := 157) (st' := [.long (Int64.ofInt (pw_gm h9 125 27)), .long (Int64.ofInt k36_4), .long (Int64.ofInt (((pw_g h9 134 (k36_8.toNat)) * (0 + 0)) * k36_6))]) rfl (fun _ => rfl) ?_
                              have hm47 := pw_mulB (a := k36_4) (b := pw_gm h9 125 27) (A := 198) (B := 24) (by omega) (by omega) (by omega) (by omega)
                              refine pw_lmul E (pc' := 158) rfl rfl ?_
                              refine pw_lcmpC E (pc' := 159) rfl rfl (by omega) (by omega) (by omega) (by omega) (fun c48 hc48 => ?_)
                              refine pw_if E (pc' := 173) rfl (by decide) (by omega) (by omega) ?_ ?_
                              · intro hc49
                                change c48 ≤ (0 : Int) at hc49
                                have hnx := (pv_nxS (p := pv_npm h b e) (w := pv_nwm h b e) (z := pv_nzm h) (by omega) hx36_0).2 (by rw [hw, hz]; omega)
                                refine pw_inc E (pc' := 176) (ls' := [some (.ref 141), some (pw_i b), some (pw_i e), some (pw_i k36_3), some (.long (Int64.ofInt k36_4)), none, some (.long (Int64.ofInt k36_6)), none, some (pw_i (k36_8 + 1)), some (pw_i (0 + 0)), some (.long (Int64.ofInt ((pw_g h9 134 (k36_8.toNat)) * (0 + 0)))), none, some (.long (Int64.ofInt (pw_gm h9 125 27))), none]) rfl rfl rfl rfl ?_
                                refine pw_goto E (pc' := 36) rfl (by decide) ?_
                                exact ih36 _ (by omega) (k36_3) (k36_4) (k36_6) (k36_8 + 1) (some (pw_i (0 + 0))) (some (.long (Int64.ofInt ((pw_g h9 134 (k36_8.toNat)) * (0 + 0))))) (some (.long (Int64.ofInt (pw_gm h9 125 27))))  (by omega) (by omega) (by omega) (by omega) (by omega) (by omega) (by omega) (by omega) hnx rfl
                              · intro hc50
                                change ¬ (c48 ≤ (0 : Int)) at hc50
                                exfalso; omega
                        · intro hc51
                          change ¬ (pw_g h9 138 (((12 * k36_8) + e).toNat) ≠ (0 : Int)) at hc51
                          refine pw_ld E (pc' := 100) (st' := [pw_i 1, pw_i 0]) rfl (fun _ => rfl) ?_
                          refine pw_goto E (pc' := 104) rfl (by decide) ?_
                          refine pw_add E (pc' := 105) rfl rfl ?_
                          refine pw_ist E (pc' := 107) (ls' := [some (.ref 141), some (pw_i b), some (pw_i e), some (pw_i k36_3), some (.long (Int64.ofInt k36_4)), none, some (.long (Int64.ofInt k36_6)), none, some (pw_i k36_8), some (pw_i (0 + 1)), k36_10, none, k36_12, none]) rfl rfl rfl rfl ?_
                          refine pw_ld E (pc' := 108) (st' := [.ref 141]) rfl (fun _ => rfl) ?_
                          refine pw_getR (b := 150) h9I E (c := 125) (k := 13) (pc' := 111) rfl rfl rfl rfl rfl rfl rfl ?_
                          refine pw_ld E (pc' := 113) (st' := [pw_i k36_8, .ref 150]) rfl (fun _ => rfl) ?_
                          refine pw_ald2 h9I E (c := 134) (pc' := 114) rfl rfl rfl (by decide) rfl (by decide) (by omega) (by omega) rfl (fun hf52a hf52b => ?_)
                          refine pw_i2l E (pc' := 115) rfl rfl (by omega) (by omega) ?_
                          refine pw_ld E (pc' := 117) (st' := [pw_i (0 + 1), .long (Int64.ofInt (pw_g h9 134 (k36_8.toNat)))]) rfl (fun _ => rfl) ?_
                          refine pw_i2l E (pc' := 118) rfl rfl (by decide) (by decide) ?_
                          refine pw_lmul E (pc' := 119) rfl rfl ?_
                          refine pw_lst E (pc' := 121) (ls' := [some (.ref 141), some (pw_i b), some (pw_i e), some (pw_i k36_3), some (.long (Int64.ofInt k36_4)), none, some (.long (Int64.ofInt k36_6)), none, some (pw_i k36_8), some (pw_i (0 + 1)), some (.long (Int64.ofInt ((pw_g h9 134 (k36_8.toNat)) * (0 + 1)))), none, k36_12, none]) rfl rfl rfl rfl ?_
                          refine pw_ld E (pc' := 122) (st' := [.ref 141]) rfl (fun _ => rfl) ?_
                          refine pw_getR (b := 148) h9I E (c := 125) (k := 11) (pc' := 125) rfl rfl rfl rfl rfl rfl rfl ?_
                          refine pw_ld E (pc' := 127) (st' := [pw_i k36_8, .ref 148]) rfl (fun _ => rfl) ?_
                          refine pw_ald2 h9I E (c := 132) (pc' := 128) rfl rfl rfl (by decide) rfl (by decide) (by omega) (by omega) rfl (fun hf53a hf53b => ?_)
                          refine pw_if E (pc' := 138) rfl (by decide) (by omega) (by omega) ?_ ?_
                          · intro hc54
                            change pw_g h9 132 (k36_8.toNat) ≠ (0 : Int) at hc54
                            refine pw_ld E (pc' := 139) (st' := [.ref 141]) rfl (fun _ => rfl) ?_
                            refine pw_getM h9I E (c := 125) (k := 29) (pc' := 142) rfl rfl rfl rfl rfl rfl (fun hf55a hf55b => ?_)
                            refine pw_lst E (pc' := 144) (ls' := [some (.ref 141), some (pw_i b), some (pw_i e), some (pw_i k36_3), some (.long (Int64.ofInt k36_4)), none, some (.long (Int64.ofInt k36_6)), none, some (pw_i k36_8), some (pw_i (0 + 1)), some (.long (Int64.ofInt ((pw_g h9 134 (k36_8.toNat)) * (0 + 1)))), none, some (.long (Int64.ofInt (pw_gm h9 125 29))), none]) rfl rfl rfl rfl ?_
                            have ib := pv_ite1 (p := pw_g h 138 (12 * k36_8 + b).toNat = 0)
                            have ie := pv_ite1 (p := pw_g h 138 (12 * k36_8 + e).toNat = 0)
                            have hsa : pv_sam h b e k36_8 = 0 + 1 := by unfold pv_sam; omega
                            have hw : pv_nwm h b e (k36_8).toNat = (pw_g h9 134 (k36_8.toNat)) * (0 + 1) := by unfold pv_nwm; rw [show ((k36_8.toNat : Nat) : Int) = k36_8 by omega, hsa, q6]
                            have hz : pv_nzm h (k36_8).toNat = pw_gm h9 125 29 := by unfold pv_nzm; rw [show pw_g h 132 (k36_8).toNat = 1 by omega]; omega
                            clear ib ie
                            refine pw_ld E (pc' := 145) (st' := [pw_i k36_3]) rfl (fun _ => rfl) ?_
                            refine pw_if E (pc' := 162) rfl (by decide) (by omega) (by omega) ?_ ?_
                            · intro hc56
                              change k36_3 < (0 : Int) at hc56
                              refine pw_ld E (pc' := 164) (st' := [pw_i k36_8]) rfl (fun _ => rfl) ?_
                              refine pw_istn E (pc' := 165) (ls' := [some (.ref 141), some (pw_i b), some (pw_i e), some (pw_i k36_8), some (.long (Int64.ofInt k36_4)), none, some (.long (Int64.ofInt k36_6)), none, some (pw_i k36_8), some (pw_i (0 + 1)), some (.long (Int64.ofInt ((pw_g h9 134 (k36_8.toNat)) * (0 + 1)))), none, some (.long (Int64.ofInt (pw_gm h9 125 29))), none]) rfl rfl rfl rfl ?_
                              refine pw_ld E (pc' := 167) (st' := [.long (Int64.ofInt ((pw_g h9 134 (k36_8.toNat)) * (0 + 1)))]) rfl (fun _ => rfl) ?_
                              refine pw_lst E (pc' := 169) (ls' := [some (.ref 141), some (pw_i b), some (pw_i e), some (pw_i k36_8), some (.long (Int64.ofInt ((pw_g h9 134 (k36_8.toNat)) * (0 + 1)))), none, some (.long (Int64.ofInt k36_6)), none, some (pw_i k36_8), some (pw_i (0 + 1)), some (.long (Int64.ofInt ((pw_g h9 134 (k36_8.toNat)) * (0 + 1)))), none, some (.long (Int64.ofInt (pw_gm h9 125 29))), none]) rfl rfl rfl rfl ?_
                              refine pw_ld E (pc' := 171) (st' := [.long (Int64.ofInt (pw_gm h9 125 29))]) rfl (fun _ => rfl) ?_
                              refine pw_lst E (pc' := 173) (ls' := [some (.ref 141), some (pw_i b), some (pw_i e), some (pw_i k36_8), some (.long (Int64.ofInt ((pw_g h9 134 (k36_8.toNat)) * (0 + 1)))), none, some (.long (Int64.ofInt (pw_gm h9 125 29))), none, some (pw_i k36_8), some (pw_i (0 + 1)), some (.long (Int64.ofInt ((pw_g h9 134 (k36_8.toNat)) * (0 + 1)))), none, some (.long (Int64.ofInt (pw_gm h9 125 29))), none]) rfl rfl rfl rfl ?_
                              have hnx := (pv_nxS (p := pv_npm h b e) (w := pv_nwm h b e) (z := pv_nzm h) (by omega) hx36_0).1 (by rw [hw, hz]; omega)
                              rw [hw, hz] at hnx
                              refine pw_inc E (pc' := 176) (ls' := [some (.ref 141), some (pw_i b), some (pw_i e), some (pw_i k36_8), some (.long (Int64.ofInt ((pw_g h9 134 (k36_8.toNat)) * (0 + 1)))), none, some (.long (Int64.ofInt (pw_gm h9 125 29))), none, some (pw_i (k36_8 + 1)), some (pw_i (0 + 1)), some (.long (Int64.ofInt ((pw_g h9 134 (k36_8.toNat)) * (0 + 1)))), none, some (.long (Int64.ofInt (pw_gm h9 125 29))), none]) rfl rfl rfl rfl ?_
                              refine pw_goto E (pc' := 36) rfl (by decide) ?_
                              exact ih36 _ (by omega) (k36_8) ((pw_g h9 134 (k36_8.toNat)) * (0 + 1)) (pw_gm h9 125 29) (k36_8 + 1) (some (pw_i (0 + 1))) (some (.long (Int64.ofInt ((pw_g h9 134 (k36_8.toNat)) * (0 + 1))))) (some (.long (Int64.ofInt (pw_gm h9 125 29))))  (by omega) (by omega) (by omega) (by omega) (by omega) (by omega) (by omega) (by omega) hnx rfl
                            · intro hc57
                              change ¬ (k36_3 < (0 : Int)) at hc57
                              refine pw_ld E (pc' := 150) (st' := [.long (Int64.ofInt ((pw_g h9 134 (k36_8.toNat)) * (0 + 1)))]) rfl (fun _ => rfl) ?_
                              refine pw_ld E (pc' := 152) (st' := [.long (Int64.ofInt k36_6), .long (Int64.ofInt ((pw_g h9 134 (k36_8.toNat)) * (0 + 1)))]) rfl (fun _ => rfl) ?_
                              have hm58 := pw_mulB (a := (pw_g h9 134 (k36_8.toNat)) * (0 + 1)) (b := k36_6) (A := 99) (B := 24) (by omega) (by omega) (by omega) (by omega)
                              refine pw_lmul E (pc' := 153) rfl rfl ?_
                              refine pw_ld E (pc' := 155) (st' := [.long (Int64.ofInt k36_4), .long (Int64.ofInt (((pw_g h9 134 (k36_8.toNat)) * (0 + 1)) * k36_6))]) rfl (fun _ => rfl) ?_
                              refine pw_ld E (pc' := 157) (st' := [.long (Int64.ofInt (pw_gm h9 125 29)), .long (Int64.ofInt k36_4), .long (Int64.ofInt (((pw_g h9 134 (k36_8.toNat)) * (0 + 1)) * k36_6))]) rfl (fun _ => rfl) ?_
                              have hm59 := pw_mulB (a := k36_4) (b := pw_gm h9 125 29) (A := 198) (B := 24) (by omega) (by omega) (by omega) (by omega)
                              refine pw_lmul E (pc' := 158) rfl rfl ?_
                              refine pw_lcmpC E (pc' := 159) rfl rfl (by omega) (by omega) (by omega) (by omega) (fun c60 hc60 => ?_)
                              refine pw_if E (pc' := 173) rfl (by decide) (by omega) (by omega) ?_ ?_
                              · intro hc61
                                change c60 ≤ (0 : Int) at hc61
                                have hnx := (pv_nxS (p := pv_npm h b e) (w := pv_nwm h b e) (z := pv_nzm h) (by omega) hx36_0).2 (by rw [hw, hz]; omega)
                                refine pw_inc E (pc' := 176) (ls' := [some (.ref 141), some (pw_i b), some (pw_i e), some (pw_i k36_3), some (.long (Int64.ofInt k36_4)), none, some (.long (Int64.ofInt k36_6)), none, some (pw_i (k36_8 + 1)), some (pw_i (0 + 1)), some (.long (Int64.ofInt ((pw_g h9 134 (k36_8.toNat)) * (0 + 1)))), none, some (.long (Int64.ofInt (pw_gm h9 125 29))), none]) rfl rfl rfl rfl ?_
                                refine pw_goto E (pc' := 36) rfl (by decide) ?_
                                exact ih36 _ (by omega) (k36_3) (k36_4) (k36_6) (k36_8 + 1) (some (pw_i (0 + 1))) (some (.long (Int64.ofInt ((pw_g h9 134 (k36_8.toNat)) * (0 + 1))))) (some (.long (Int64.ofInt (pw_gm h9 125 29))))  (by omega) (by omega) (by omega) (by omega) (by omega) (by omega) (by omega) (by omega) hnx rfl
                              · intro hc62
                                change ¬ (c60 ≤ (0 : Int)) at hc62
                                refine pw_ld E (pc' := 164) (st' := [pw_i k36_8]) rfl (fun _ => rfl) ?_
                                refine pw_istn E (pc' := 165) (ls' := [some (.ref 141), some (pw_i b), some (pw_i e), some (pw_i k36_8), some (.long (Int64.ofInt k36_4)), none, some (.long (Int64.ofInt k36_6)), none, some (pw_i k36_8), some (pw_i (0 + 1)), some (.long (Int64.ofInt ((pw_g h9 134 (k36_8.toNat)) * (0 + 1)))), none, some (.long (Int64.ofInt (pw_gm h9 125 29))), none]) rfl rfl rfl rfl ?_
                                refine pw_ld E (pc' := 167) (st' := [.long (Int64.ofInt ((pw_g h9 134 (k36_8.toNat)) * (0 + 1)))]) rfl (fun _ => rfl) ?_
                                refine pw_lst E (pc' := 169) (ls' := [some (.ref 141), some (pw_i b), some (pw_i e), some (pw_i k36_8), some (.long (Int64.ofInt ((pw_g h9 134 (k36_8.toNat)) * (0 + 1)))), none, some (.long (Int64.ofInt k36_6)), none, some (pw_i k36_8), some (pw_i (0 + 1)), some (.long (Int64.ofInt ((pw_g h9 134 (k36_8.toNat)) * (0 + 1)))), none, some (.long (Int64.ofInt (pw_gm h9 125 29))), none]) rfl rfl rfl rfl ?_
                                refine pw_ld E (pc' := 171) (st' := [.long (Int64.ofInt (pw_gm h9 125 29))]) rfl (fun _ => rfl) ?_
                                refine pw_lst E (pc' := 173) (ls' := [some (.ref 141), some (pw_i b), some (pw_i e), some (pw_i k36_8), some (.long (Int64.ofInt ((pw_g h9 134 (k36_8.toNat)) * (0 + 1)))), none, some (.long (Int64.ofInt (pw_gm h9 125 29))), none, some (pw_i k36_8), some (pw_i (0 + 1)), some (.long (Int64.ofInt ((pw_g h9 134 (k36_8.toNat)) * (0 + 1)))), none, some (.long (Int64.ofInt (pw_gm h9 125 29))), none]) rfl rfl rfl rfl ?_
                                have hnx := (pv_nxS (p := pv_npm h b e) (w := pv_nwm h b e) (z := pv_nzm h) (by omega) hx36_0).1 (by rw [hw, hz]; omega)
                                rw [hw, hz] at hnx
                                refine pw_inc E (pc' := 176) (ls' := [some (.ref 141), some (pw_i b), some (pw_i e), some (pw_i k36_8), some (.long (Int64.ofInt ((pw_g h9 134 (k36_8.toNat)) * (0 + 1)))), none, some (.long (Int64.ofInt (pw_gm h9 125 29))), none, some (pw_i (k36_8 + 1)), some (pw_i (0 + 1)), some (.long (Int64.ofInt ((pw_g h9 134 (k36_8.toNat)) * (0 + 1)))), none, some (.long (Int64.ofInt (pw_gm h9 125 29))), none]) rfl rfl rfl rfl ?_
                                refine pw_goto E (pc' := 36) rfl (by decide) ?_
                                exact ih36 _ (by omega) (k36_8) ((pw_g h9 134 (k36_8.toNat)) * (0 + 1)) (pw_gm h9 125 29) (k36_8 + 1) (some (pw_i (0 + 1))) (some (.long (Int64.ofInt ((pw_g h9 134 (k36_8.toNat)) * (0 + 1))))) (some (.long (Int64.ofInt (pw_gm h9 125 29))))  (by omega) (by omega) (by omega) (by omega) (by omega) (by omega) (by omega) (by omega) hnx rfl
                          · intro hc63
                            change ¬ (pw_g h9 132 (k36_8.toNat) ≠ (0 : Int)) at hc63
                            refine pw_ld E (pc' := 132) (st' := [.ref 141]) rfl (fun _ => rfl) ?_
                            refine pw_getM h9I E (c := 125) (k := 27) (pc' := 135) rfl rfl rfl rfl rfl rfl (fun hf64a hf64b => ?_)
                            refine pw_goto E (pc' := 142) rfl (by decide) ?_
                            refine pw_lst E (pc' := 144) (ls' := [some (.ref 141), some (pw_i b), some (pw_i e), some (pw_i k36_3), some (.long (Int64.ofInt k36_4)), none, some (.long (Int64.ofInt k36_6)), none, some (pw_i k36_8), some (pw_i (0 + 1)), some (.long (Int64.ofInt ((pw_g h9 134 (k36_8.toNat)) * (0 + 1)))), none, some (.long (Int64.ofInt (pw_gm h9 125 27))), none]) rfl rfl rfl rfl ?_
                            have ib := pv_ite1 (p := pw_g h 138 (12 * k36_8 + b).toNat = 0)
                            have ie := pv_ite1 (p := pw_g h 138 (12 * k36_8 + e).toNat = 0)
                            have hsa : pv_sam h b e k36_8 = 0 + 1 := by unfold pv_sam; omega
                            have hw : pv_nwm h b e (k36_8).toNat = (pw_g h9 134 (k36_8.toNat)) * (0 + 1) := by unfold pv_nwm; rw [show ((k36_8.toNat : Nat) : Int) = k36_8 by omega, hsa, q6]
                            have hz : pv_nzm h (k36_8).toNat = pw_gm h9 125 27 := by unfold pv_nzm; rw [show pw_g h 132 (k36_8).toNat = 0 by omega]; omega
                            clear ib ie
                            refine pw_ld E (pc' := 145) (st' := [pw_i k36_3]) rfl (fun _ => rfl) ?_
                            refine pw_if E (pc' := 162) rfl (by decide) (by omega) (by omega) ?_ ?_
                            · intro hc65
                              change k36_3 < (0 : Int) at hc65
                              refine pw_ld E (pc' := 164) (st' := [pw_i k36_8]) rfl (fun _ => rfl) ?_
                              refine pw_istn E (pc' := 165) (ls' := [some (.ref 141), some (pw_i b), some (pw_i e), some (pw_i k36_8), some (.long (Int64.ofInt k36_4)), none, some (.long (Int64.ofInt k36_6)), none, some (pw_i k36_8), some (pw_i (0 + 1)), some (.long (Int64.ofInt ((pw_g h9 134 (k36_8.toNat)) * (0 + 1)))), none, some (.long (Int64.ofInt (pw_gm h9 125 27))), none]) rfl rfl rfl rfl ?_
                              refine pw_ld E (pc' := 167) (st' := [.long (Int64.ofInt ((pw_g h9 134 (k36_8.toNat)) * (0 + 1)))]) rfl (fun _ => rfl) ?_
                              refine pw_lst E (pc' := 169) (ls' := [some (.ref 141), some (pw_i b), some (pw_i e), some (pw_i k36_8), some (.long (Int64.ofInt ((pw_g h9 134 (k36_8.toNat)) * (0 + 1)))), none, some (.long (Int64.ofInt k36_6)), none, some (pw_i k36_8), some (pw_i (0 + 1)), some (.long (Int64.ofInt ((pw_g h9 134 (k36_8.toNat)) * (0 + 1)))), none, some (.long (Int64.ofInt (pw_gm h9 125 27))), none]) rfl rfl rfl rfl ?_
                              refine pw_ld E (pc' := 171) (st' := [.long (Int64.ofInt (pw_gm h9 125 27))]) rfl (fun _ => rfl) ?_
                              refine pw_lst E (pc' := 173) (ls' := [some (.ref 141), some (pw_i b), some (pw_i e), some (pw_i k36_8), some (.long (Int64.ofInt ((pw_g h9 134 (k36_8.toNat)) * (0 + 1)))), none, some (.long (Int64.ofInt (pw_gm h9 125 27))), none, some (pw_i k36_8), some (pw_i (0 + 1)), some (.long (Int64.ofInt ((pw_g h9 134 (k36_8.toNat)) * (0 + 1)))), none, some (.long (Int64.ofInt (pw_gm h9 125 27))), none]) rfl rfl rfl rfl ?_
                              have hnx := (pv_nxS (p := pv_npm h b e) (w := pv_nwm h b e) (z := pv_nzm h) (by omega) hx36_0).1 (by rw [hw, hz]; omega)
                              rw [hw, hz] at hnx
                              refine pw_inc E (pc' := 176) (ls' := [some (.ref 141), some (pw_i b), some (pw_i e), some (pw_i k36_8), some (.long (Int64.ofInt ((pw_g h9 134 (k36_8.toNat)) * (0 + 1)))), none, some (.long (Int64.ofInt (pw_gm h9 125 27))), none, some (pw_i (k36_8 + 1)), some (pw_i (0 + 1)), some (.long (Int64.ofInt ((pw_g h9 134 (k36_8.toNat)) * (0 + 1)))), none, some (.long (Int64.ofInt (pw_gm h9 125 27))), none]) rfl rfl rfl rfl ?_
                              refine pw_goto E (pc' := 36) rfl (by decide) ?_
                              exact ih36 _ (by omega) (k36_8) ((pw_g h9 134 (k36_8.toNat)) * (0 + 1)) (pw_gm h9 125 27) (k36_8 + 1) (some (pw_i (0 + 1))) (some (.long (Int64.ofInt ((pw_g h9 134 (k36_8.toNat)) * (0 + 1))))) (some (.long (Int64.ofInt (pw_gm h9 125 27))))  (by omega) (by omega) (by omega) (by omega) (by omega) (by omega) (by omega) (by omega) hnx rfl
                            · intro hc66
                              change ¬ (k36_3 < (0 : Int)) at hc66
                              refine pw_ld E (pc' := 150) (st' := [.long (Int64.ofInt ((pw_g h9 134 (k36_8.toNat)) * (0 + 1)))]) rfl (fun _ => rfl) ?_
                              refine pw_ld E (pc' := 152) (st' := [.long (Int64.ofInt k36_6), .long (Int64.ofInt ((pw_g h9 134 (k36_8.toNat)) * (0 + 1)))]) rfl (fun _ => rfl) ?_
                              have hm67 := pw_mulB (a := (pw_g h9 134 (k36_8.toNat)) * (0 + 1)) (b := k36_6) (A := 99) (B := 24) (by omega) (by omega) (by omega) (by omega)
                              refine pw_lmul E (pc' := 153) rfl rfl ?_
                              refine pw_ld E (pc' := 155) (st' := [.long (Int64.ofInt k36_4), .long (Int64.ofInt (((pw_g h9 134 (k36_8.toNat)) * (0 + 1)) * k36_6))]) rfl (fun _ => rfl) ?_
                              refine pw_ld E (pc' := 157) (st' := [.long (Int64.ofInt (pw_gm h9 125 27)), .long (Int64.ofInt k36_4), .long (Int64.ofInt (((pw_g h9 134 (k36_8.toNat)) * (0 + 1)) * k36_6))]) rfl (fun _ => rfl) ?_
                              have hm68 := pw_mulB (a := k36_4) (b := pw_gm h9 125 27) (A := 198) (B := 24) (by omega) (by omega) (by omega) (by omega)
                              refine pw_lmul E (pc' := 158) rfl rfl ?_
                              refine pw_lcmpC E (pc' := 159) rfl rfl (by omega) (by omega) (by omega) (by omega) (fun c69 hc69 => ?_)
                              refine pw_if E (pc' := 173) rfl (by decide) (by omega) (by omega) ?_ ?_
                              · intro hc70
                                change c69 ≤ (0 : Int) at hc70
                                have hnx := (pv_nxS (p := pv_npm h b e) (w := pv_nwm h b e) (z := pv_nzm h) (by omega) hx36_0).2 (by rw [hw, hz]; omega)
                                refine pw_inc E (pc' := 176) (ls' := [some (.ref 141), some (pw_i b), some (pw_i e), some (pw_i k36_3), some (.long (Int64.ofInt k36_4)), none, some (.long (Int64.ofInt k36_6)), none, some (pw_i (k36_8 + 1)), some (pw_i (0 + 1)), some (.long (Int64.ofInt ((pw_g h9 134 (k36_8.toNat)) * (0 + 1)))), none, some (.long (Int64.ofInt (pw_gm h9 125 27))), none]) rfl rfl rfl rfl ?_
                                refine pw_goto E (pc' := 36) rfl (by decide) ?_
                                exact ih36 _ (by omega) (k36_3) (k36_4) (k36_6) (k36_8 + 1) (some (pw_i (0 + 1))) (some (.long (Int64.ofInt ((pw_g h9 134 (k36_8.toNat)) * (0 + 1))))) (some (.long (Int64.ofInt (pw_gm h9 125 27))))  (by omega) (by omega) (by omega) (by omega) (by omega) (by omega) (by omega) (by omega) hnx rfl
                              · intro hc71
                                change ¬ (c69 ≤ (0 : Int)) at hc71
                                refine pw_ld E (pc' := 164) (st' := [pw_i k36_8]) rfl (fun _ => rfl) ?_
                                refine pw_istn E (pc' := 165) (ls' := [some (.ref 141), some (pw_i b), some (pw_i e), some (pw_i k36_8), some (.long (Int64.ofInt k36_4)), none, some (.long (Int64.ofInt k36_6)), none, some (pw_i k36_8), some (pw_i (0 + 1)), some (.long (Int64.ofInt ((pw_g h9 134 (k36_8.toNat)) * (0 + 1)))), none, some (.long (Int64.ofInt (pw_gm h9 125 27))), none]) rfl rfl rfl rfl ?_
                                refine pw_ld E (pc' := 167) (st' := [.long (Int64.ofInt ((pw_g h9 134 (k36_8.toNat)) * (0 + 1)))]) rfl (fun _ => rfl) ?_
                                refine pw_lst E (pc' := 169) (ls' := [some (.ref 141), some (pw_i b), some (pw_i e), some (pw_i k36_8), some (.long (Int64.ofInt ((pw_g h9 134 (k36_8.toNat)) * (0 + 1)))), none, some (.long (Int64.ofInt k36_6)), none, some (pw_i k36_8), some (pw_i (0 + 1)), some (.long (Int64.ofInt ((pw_g h9 134 (k36_8.toNat)) * (0 + 1)))), none, some (.long (Int64.ofInt (pw_gm h9 125 27))), none]) rfl rfl rfl rfl ?_
                                refine pw_ld E (pc' := 171) (st' := [.long (Int64.ofInt (pw_gm h9 125 27))]) rfl (fun _ => rfl) ?_
                                refine pw_lst E (pc' := 173) (ls' := [some (.ref 141), some (pw_i b), some (pw_i e), some (pw_i k36_8), some (.long (Int64.ofInt ((pw_g h9 134 (k36_8.toNat)) * (0 + 1)))), none, some (.long (Int64.ofInt (pw_gm h9 125 27))), none, some (pw_i k36_8), some (pw_i (0 + 1)), some (.long (Int64.ofInt ((pw_g h9 134 (k36_8.toNat)) * (0 + 1)))), none, some (.long (Int64.ofInt (pw_gm h9 125 27))), none]) rfl rfl rfl rfl ?_
                                have hnx := (pv_nxS (p := pv_npm h b e) (w := pv_nwm h b e) (z := pv_nzm h) (by omega) hx36_0).1 (by rw [hw, hz]; omega)
                                rw [hw, hz] at hnx
                                refine pw_inc E (pc' := 176) (ls' := [some (.ref 141), some (pw_i b), some (pw_i e), some (pw_i k36_8), some (.long (Int64.ofInt ((pw_g h9 134 (k36_8.toNat)) * (0 + 1)))), none, some (.long (Int64.ofInt (pw_gm h9 125 27))), none, some (pw_i (k36_8 + 1)), some (pw_i (0 + 1)), some (.long (Int64.ofInt ((pw_g h9 134 (k36_8.toNat)) * (0 + 1)))), none, some (.long (Int64.ofInt (pw_gm h9 125 27))), none]) rfl rfl rfl rfl ?_
                                refine pw_goto E (pc' := 36) rfl (by decide) ?_
                                exact ih36 _ (by omega) (k36_8) ((pw_g h9 134 (k36_8.toNat)) * (0 + 1)) (pw_gm h9 125 27) (k36_8 + 1) (some (pw_i (0 + 1))) (some (.long (Int64.ofInt ((pw_g h9 134 (k36_8.toNat)) * (0 + 1))))) (some (.long (Int64.ofInt (pw_gm h9 125 27))))  (by omega) (by omega) (by omega) (by omega) (by omega) (by omega) (by omega) (by omega) hnx rfl
                      · intro hc72
                        change ¬ (pw_g h9 138 (((12 * k36_8) + b).toNat) ≠ (0 : Int)) at hc72
                        refine pw_ld E (pc' := 80) (st' := [pw_i 1]) rfl (fun _ => rfl) ?_
                        refine pw_goto E (pc' := 84) rfl (by decide) ?_
                        refine pw_ld E (pc' := 85) (st' := [.ref 141, pw_i 1]) rfl (fun _ => rfl) ?_
                        refine pw_getR (b := 154) h9I E (c := 125) (k := 18) (pc' := 88) rfl rfl rfl rfl rfl rfl rfl ?_
                        refine pw_bip E (pc' := 90) rfl rfl (by decide) ?_
                        refine pw_ld E (pc' := 92) (st' := [pw_i k36_8, pw_i 12, .ref 154, pw_i 1]) rfl (fun _ => rfl) ?_
                        refine pw_mul E (pc' := 93) rfl rfl ?_
                        refine pw_ld E (pc' := 94) (st' := [pw_i e, pw_i (12 * k36_8), .ref 154, pw_i 1]) rfl (fun _ => rfl) ?_
                        refine pw_add E (pc' := 95) rfl rfl ?_
                        refine pw_ald2 h9I E (c := 138) (pc' := 96) rfl rfl rfl (by decide) rfl (by decide) (by omega) (by omega) rfl (fun hf73a hf73b => ?_)
                        refine pw_if E (pc' := 103) rfl (by decide) (by omega) (by omega) ?_ ?_
                        · intro hc74
                          change pw_g h9 138 (((12 * k36_8) + e).toNat) ≠ (0 : Int) at hc74
                          refine pw_ld E (pc' := 104) (st' := [pw_i 0, pw_i 1]) rfl (fun _ => rfl) ?_
                          refine pw_add E (pc' := 105) rfl rfl ?_
                          refine pw_ist E (pc' := 107) (ls' := [some (.ref 141), some (pw_i b), some (pw_i e), some (pw_i k36_3), some (.long (Int64.ofInt k36_4)), none, some (.long (Int64.ofInt k36_6)), none, some (pw_i k36_8), some (pw_i (1 + 0)), k36_10, none, k36_12, none]) rfl rfl rfl rfl ?_
                          refine pw_ld E (pc' := 108) (st' := [.ref 141]) rfl (fun _ => rfl) ?_
                          refine pw_getR (b := 150) h9I E (c := 125) (k := 13) (pc' := 111) rfl rfl rfl rfl rfl rfl rfl ?_
                          refine pw_ld E (pc' := 113) (st' := [pw_i k36_8, .ref 150]) rfl (fun _ => rfl) ?_
                          refine pw_ald2 h9I E (c := 134) (pc' := 114) rfl rfl rfl (by decide) rfl (by decide) (by omega) (by omega) rfl (fun hf75a hf75b => ?_)
                          refine pw_i2l E (pc' := 115) rfl rfl (by omega) (by omega) ?_
                          refine pw_ld E (pc' := 117) (st' := [pw_i (1 + 0), .long (Int64.ofInt (pw_g h9 134 (k36_8.toNat)))]) rfl (fun _ => rfl) ?_
                          refine pw_i2l E (pc' := 118) rfl rfl (by decide) (by decide) ?_
                          refine pw_lmul E (pc' := 119) rfl rfl ?_
                          refine pw_lst E (pc' := 121) (ls' := [some (.ref 141), some (pw_i b), some (pw_i e), some (pw_i k36_3), some (.long (Int64.ofInt k36_4)), none, some (.long (Int64.ofInt k36_6)), none, some (pw_i k36_8), some (pw_i (1 + 0)), some (.long (Int64.ofInt ((pw_g h9 134 (k36_8.toNat)) * (1 + 0)))), none, k36_12, none]) rfl rfl rfl rfl ?_
                          refine pw_ld E (pc' := 122) (st' := [.ref 141]) rfl (fun _ => rfl) ?_
                          refine pw_getR (b := 148) h9I E (c := 125) (k := 11) (pc' := 125) rfl rfl rfl rfl rfl rfl rfl ?_
                          refine pw_ld E (pc' := 127) (st' := [pw_i k36_8, .ref 148]) rfl (fun _ => rfl) ?_
                          refine pw_ald2 h9I E (c := 132) (pc' := 128) rfl rfl rfl (by decide) rfl (by decide) (by omega) (by omega) rfl (fun hf76a hf76b => ?_)
                          refine pw_if E (pc' := 138) rfl (by decide) (by omega) (by omega) ?_ ?_
                          · intro hc77
                            change pw_g h9 132 (k36_8.toNat) ≠ (0 : Int) at hc77
                            refine pw_ld E (pc' := 139) (st' := [.ref 141]) rfl (fun _ => rfl) ?_
                            refine pw_getM h9I E (c := 125) (k := 29) (pc' := 142) rfl rfl rfl rfl rfl rfl (fun hf78a hf78b => ?_)
                            refine pw_lst E (pc' := 144) (ls' := [some (.ref 141), some (pw_i b), some (pw_i e), some (pw_i k36_3), some (.long (Int64.ofInt k36_4)), none, some (.long (Int64.ofInt k36_6)), none, some (pw_i k36_8), some (pw_i (1 + 0)), some (.long (Int64.ofInt ((pw_g h9 134 (k36_8.toNat)) * (1 + 0)))), none, some (.long (Int64.ofInt (pw_gm h9 125 29))), none]) rfl rfl rfl rfl ?_
                            have ib := pv_ite1 (p := pw_g h 138 (12 * k36_8 + b).toNat = 0)
                            have ie := pv_ite1 (p := pw_g h 138 (12 * k36_8 + e).toNat = 0)
                            have hsa : pv_sam h b e k36_8 = 1 + 0 := by unfold pv_sam; omega
                            have hw : pv_nwm h b e (k36_8).toNat = (pw_g h9 134 (k36_8.toNat)) * (1 + 0) := by unfold pv_nwm; rw [show ((k36_8.toNat : Nat) : Int) = k36_8 by omega, hsa, q6]
                            have hz : pv_nzm h (k36_8).toNat = pw_gm h9 125 29 := by unfold pv_nzm; rw [show pw_g h 132 (k36_8).toNat = 1 by omega]; omega
                            clear ib ie
                            refine pw_ld E (pc' := 145) (st' := [pw_i k36_3]) rfl (fun _ => rfl) ?_
                            refine pw_if E (pc' := 162) rfl (by decide) (by omega) (by omega) ?_ ?_
                            · intro hc79
                              change k36_3 < (0 : Int) at hc79
                              refine pw_ld E (pc' := 164) (st' := [pw_i k36_8]) rfl (fun _ => rfl) ?_
                              refine pw_istn E (pc' := 165) (ls' := [some (.ref 141), some (pw_i b), some (pw_i e), some (pw_i k36_8), some (.long (Int64.ofInt k36_4)), none, some (.long (Int64.ofInt k36_6)), none, some (pw_i k36_8), some (pw_i (1 + 0)), some (.long (Int64.ofInt ((pw_g h9 134 (k36_8.toNat)) * (1 + 0)))), none, some (.long (Int64.ofInt (pw_gm h9 125 29))), none]) rfl rfl rfl rfl ?_
                              refine pw_ld E (pc' := 167) (st' := [.long (Int64.ofInt ((pw_g h9 134 (k36_8.toNat)) * (1 + 0)))]) rfl (fun _ => rfl) ?_
                              refine pw_lst E (pc' := 169) (ls' := [some (.ref 141), some (pw_i b), some (pw_i e), some (pw_i k36_8), some (.long (Int64.ofInt ((pw_g h9 134 (k36_8.toNat)) * (1 + 0)))), none, some (.long (Int64.ofInt k36_6)), none, some (pw_i k36_8), some (pw_i (1 + 0)), some (.long (Int64.ofInt ((pw_g h9 134 (k36_8.toNat)) * (1 + 0)))), none, some (.long (Int64.ofInt (pw_gm h9 125 29))), none]) rfl rfl rfl rfl ?_
                              refine pw_ld E (pc' := 171) (st' := [.long (Int64.ofInt (pw_gm h9 125 29))]) rfl (fun _ => rfl) ?_
                              refine pw_lst E (pc' := 173) (ls' := [some (.ref 141), some (pw_i b), some (pw_i e), some (pw_i k36_8), some (.long (Int64.ofInt ((pw_g h9 134 (k36_8.toNat)) * (1 + 0)))), none, some (.long (Int64.ofInt (pw_gm h9 125 29))), none, some (pw_i k36_8), some (pw_i (1 + 0)), some (.long (Int64.ofInt ((pw_g h9 134 (k36_8.toNat)) * (1 + 0)))), none, some (.long (Int64.ofInt (pw_gm h9 125 29))), none]) rfl rfl rfl rfl ?_
                              have hnx := (pv_nxS (p := pv_npm h b e) (w := pv_nwm h b e) (z := pv_nzm h) (by omega) hx36_0).1 (by rw [hw, hz]; omega)
                              rw [hw, hz] at hnx
                              refine pw_inc E (pc' := 176) (ls' := [some (.ref 141), some (pw_i b), some (pw_i e), some (pw_i k36_8), some (.long (Int64.ofInt ((pw_g h9 134 (k36_8.toNat)) * (1 + 0)))), none, some (.long (Int64.ofInt (pw_gm h9 125 29))), none, some (pw_i (k36_8 + 1)), some (pw_i (1 + 0)), some (.long (Int64.ofInt ((pw_g h9 134 (k36_8.toNat)) * (1 + 0)))), none, some (.long (Int64.ofInt (pw_gm h9 125 29))), none]) rfl rfl rfl rfl ?_
                              refine pw_goto E (pc' := 36) rfl (by decide) ?_
                              exact ih36 _ (by omega) (k36_8) ((pw_g h9 134 (k36_8.toNat)) * (1 + 0)) (pw_gm h9 125 29) (k36_8 + 1) (some (pw_i (1 + 0))) (some (.long (Int64.ofInt ((pw_g h9 134 (k36_8.toNat)) * (1 + 0))))) (some (.long (Int64.ofInt (pw_gm h9 125 29))))  (by omega) (by omega) (by omega) (by omega) (by omega) (by omega) (by omega) (by omega) hnx rfl
                            · intro hc80
                              change ¬ (k36_3 < (0 : Int)) at hc80
                              refine pw_ld E (pc' := 150) (st' := [.long (Int64.ofInt ((pw_g h9 134 (k36_8.toNat)) * (1 + 0)))]) rfl (fun _ => rfl) ?_
                              refine pw_ld E (pc' := 152) (st' := [.long (Int64.ofInt k36_6), .long (Int64.ofInt ((pw_g h9 134 (k36_8.toNat)) * (1 + 0)))]) rfl (fun _ => rfl) ?_
                              have hm81 := pw_mulB (a := (pw_g h9 134 (k36_8.toNat)) * (1 + 0)) (b := k36_6) (A := 99) (B := 24) (by omega) (by omega) (by omega) (by omega)
                              refine pw_lmul E (pc' := 153) rfl rfl ?_
                              refine pw_ld E (pc' := 155) (st' := [.long (Int64.ofInt k36_4), .long (Int64.ofInt (((pw_g h9 134 (k36_8.toNat)) * (1 + 0)) * k36_6))]) rfl (fun _ => rfl) ?_
                              refine pw_ld E (pc' := 157) (st' := [.long (Int64.ofInt (pw_gm h9 125 29)), .long (Int64.ofInt k36_4), .long (Int64.ofInt (((pw_g h9 134 (k36_8.toNat)) * (1 + 0)) * k36_6))]) rfl (fun _ => rfl) ?_
                              have hm82 := pw_mulB (a := k36_4) (b := pw_gm h9 125 29) (A := 198) (B := 24) (by omega) (by omega) (by omega) (by omega)
                              refine pw_lmul E (pc' := 158) rfl rfl ?_
                              refine pw_lcmpC E (pc' := 159) rfl rfl (by omega) (by omega) (by omega) (by omega) (fun c83 hc83 => ?_)
                              refine pw_if E (pc' := 173) rfl (by decide) (by omega) (by omega) ?_ ?_
                              · intro hc84
                                change c83 ≤ (0 : Int) at hc84
                                have hnx := (pv_nxS (p := pv_npm h b e) (w := pv_nwm h b e) (z := pv_nzm h) (by omega) hx36_0).2 (by rw [hw, hz]; omega)
                                refine pw_inc E (pc' := 176) (ls' := [some (.ref 141), some (pw_i b), some (pw_i e), some (pw_i k36_3), some (.long (Int64.ofInt k36_4)), none, some (.long (Int64.ofInt k36_6)), none, some (pw_i (k36_8 + 1)), some (pw_i (1 + 0)), some (.long (Int64.ofInt ((pw_g h9 134 (k36_8.toNat)) * (1 + 0)))), none, some (.long (Int64.ofInt (pw_gm h9 125 29))), none]) rfl rfl rfl rfl ?_
                                refine pw_goto E (pc' := 36) rfl (by decide) ?_
                                exact ih36 _ (by omega) (k36_3) (k36_4) (k36_6) (k36_8 + 1) (some (pw_i (1 + 0))) (some (.long (Int64.ofInt ((pw_g h9 134 (k36_8.toNat)) * (1 + 0))))) (some (.long (Int64.ofInt (pw_gm h9 125 29))))  (by omega) (by omega) (by omega) (by omega) (by omega) (by omega) (by omega) (by omega) hnx rfl
                              · intro hc85
                                change ¬ (c83 ≤ (0 : Int)) at hc85
                                refine pw_ld E (pc' := 164) (st' := [pw_i k36_8]) rfl (fun _ => rfl) ?_
                                refine pw_istn E (pc' := 165) (ls' := [some (.ref 141), some (pw_i b), some (pw_i e), some (pw_i k36_8), some (.long (Int64.ofInt k36_4)), none, some (.long (Int64.ofInt k36_6)), none, some (pw_i k36_8), some (pw_i (1 + 0)), some (.long (Int64.ofInt ((pw_g h9 134 (k36_8.toNat)) * (1 + 0)))), none, some (.long (Int64.ofInt (pw_gm h9 125 29))), none]) rfl rfl rfl rfl ?_
                                refine pw_ld E (pc' := 167) (st' := [.long (Int64.ofInt ((pw_g h9 134 (k36_8.toNat)) * (1 + 0)))]) rfl (fun _ => rfl) ?_
                                refine pw_lst E (pc' := 169) (ls' := [some (.ref 141), some (pw_i b), some (pw_i e), some (pw_i k36_8), some (.long (Int64.ofInt ((pw_g h9 134 (k36_8.toNat)) * (1 + 0)))), none, some (.long (Int64.ofInt k36_6)), none, some (pw_i k36_8), some (pw_i (1 + 0)), some (.long (Int64.ofInt ((pw_g h9 134 (k36_8.toNat)) * (1 + 0)))), none, some (.long (Int64.ofInt (pw_gm h9 125 29))), none]) rfl rfl rfl rfl ?_
                                refine pw_ld E (pc' := 171) (st' := [.long (Int64.ofInt (pw_gm h9 125 29))]) rfl (fun _ => rfl) ?_
                                refine pw_lst E (pc' := 173) (ls' := [some (.ref 141), some (pw_i b), some (pw_i e), some (pw_i k36_8), some (.long (Int64.ofInt ((pw_g h9 134 (k36_8.toNat)) * (1 + 0)))), none, some (.long (Int64.ofInt (pw_gm h9 125 29))), none, some (pw_i k36_8), some (pw_i (1 + 0)), some (.long (Int64.ofInt ((pw_g h9 134 (k36_8.toNat)) * (1 + 0)))), none, some (.long (Int64.ofInt (pw_gm h9 125 29))), none]) rfl rfl rfl rfl ?_
                                have hnx := (pv_nxS (p := pv_npm h b e) (w := pv_nwm h b e) (z := pv_nzm h) (by omega) hx36_0).1 (by rw [hw, hz]; omega)
                                rw [hw, hz] at hnx
                                refine pw_inc E (pc' := 176) (ls' := [some (.ref 141), some (pw_i b), some (pw_i e), some (pw_i k36_8), some (.long (Int64.ofInt ((pw_g h9 134 (k36_8.toNat)) * (1 + 0)))), none, some (.long (Int64.ofInt (pw_gm h9 125 29))), none, some (pw_i (k36_8 + 1)), some (pw_i (1 + 0)), some (.long (Int64.ofInt ((pw_g h9 134 (k36_8.toNat)) * (1 + 0)))), none, some (.long (Int64.ofInt (pw_gm h9 125 29))), none]) rfl rfl rfl rfl ?_
                                refine pw_goto E (pc' := 36) rfl (by decide) ?_
                                exact ih36 _ (by omega) (k36_8) ((pw_g h9 134 (k36_8.toNat)) * (1 + 0)) (pw_gm h9 125 29) (k36_8 + 1) (some (pw_i (1 + 0))) (some (.long (Int64.ofInt ((pw_g h9 134 (k36_8.toNat)) * (1 + 0))))) (some (.long (Int64.ofInt (pw_gm h9 125 29))))  (by omega) (by omega) (by omega) (by omega) (by omega) (by omega) (by omega) (by omega) hnx rfl
                          · intro hc86
                            change ¬ (pw_g h9 132 (k36_8.toNat) ≠ (0 : Int)) at hc86
                            refine pw_ld E (pc' := 132) (st' := [.ref 141]) rfl (fun _ => rfl) ?_
                            refine pw_getM h9I E (c := 125) (k := 27) (pc' := 135) rfl rfl rfl rfl rfl rfl (fun hf87a hf87b => ?_)
                            refine pw_goto E (pc' := 142) rfl (by decide) ?_
                            refine pw_lst E (pc' := 144) (ls' := [some (.ref 141), some (pw_i b), some (pw_i e), some (pw_i k36_3), some (.long (Int64.ofInt k36_4)), none, some (.long (Int64.ofInt k36_6)), none, some (pw_i k36_8), some (pw_i (1 + 0)), some (.long (Int64.ofInt ((pw_g h9 134 (k36_8.toNat)) * (1 + 0)))), none, some (.long (Int64.ofInt (pw_gm h9 125 27))), none]) rfl rfl rfl rfl ?_
                            have ib := pv_ite1 (p := pw_g h 138 (12 * k36_8 + b).toNat = 0)
                            have ie := pv_ite1 (p := pw_g h 138 (12 * k36_8 + e).toNat = 0)
                            have hsa : pv_sam h b e k36_8 = 1 + 0 := by unfold pv_sam; omega
                            have hw : pv_nwm h b e (k36_8).toNat = (pw_g h9 134 (k36_8.toNat)) * (1 + 0) := by unfold pv_nwm; rw [show ((k36_8.toNat : Nat) : Int) = k36_8 by omega, hsa, q6]
                            have hz : pv_nzm h (k36_8).toNat = pw_gm h9 125 27 := by unfold pv_nzm; rw [show pw_g h 132 (k36_8).toNat = 0 by omega]; omega
                            clear ib ie
                            refine pw_ld E (pc' := 145) (st' := [pw_i k36_3]) rfl (fun _ => rfl) ?_
                            refine pw_if E (pc' := 162) rfl (by decide) (by omega) (by omega) ?_ ?_
                            · intro hc88
                              change k36_3 < (0 : Int) at hc88
                              refine pw_ld E (pc' := 164) (st' := [pw_i k36_8]) rfl (fun _ => rfl) ?_
                              refine pw_istn E (pc' := 165) (ls' := [some (.ref 141), some (pw_i b), some (pw_i e), some (pw_i k36_8), some (.long (Int64.ofInt k36_4)), none, some (.long (Int64.ofInt k36_6)), none, some (pw_i k36_8), some (pw_i (1 + 0)), some (.long (Int64.ofInt ((pw_g h9 134 (k36_8.toNat)) * (1 + 0)))), none, some (.long (Int64.ofInt (pw_gm h9 125 27))), none]) rfl rfl rfl rfl ?_
                              refine pw_ld E (pc' := 167) (st' := [.long (Int64.ofInt ((pw_g h9 134 (k36_8.toNat)) * (1 + 0)))]) rfl (fun _ => rfl) ?_
                              refine pw_lst E (pc' := 169) (ls' := [some (.ref 141), some (pw_i b), some (pw_i e), some (pw_i k36_8), some (.long (Int64.ofInt ((pw_g h9 134 (k36_8.toNat)) * (1 + 0)))), none, some (.long (Int64.ofInt k36_6)), none, some (pw_i k36_8), some (pw_i (1 + 0)), some (.long (Int64.ofInt ((pw_g h9 134 (k36_8.toNat)) * (1 + 0)))), none, some (.long (Int64.ofInt (pw_gm h9 125 27))), none]) rfl rfl rfl rfl ?_
                              refine pw_ld E (pc' := 171) (st' := [.long (Int64.ofInt (pw_gm h9 125 27))]) rfl (fun _ => rfl) ?_
                              refine pw_lst E (pc' := 173) (ls' := [some (.ref 141), some (pw_i b), some (pw_i e), some (pw_i k36_8), some (.long (Int64.ofInt ((pw_g h9 134 (k36_8.toNat)) * (1 + 0)))), none, some (.long (Int64.ofInt (pw_gm h9 125 27))), none, some (pw_i k36_8), some (pw_i (1 + 0)), some (.long (Int64.ofInt ((pw_g h9 134 (k36_8.toNat)) * (1 + 0)))), none, some (.long (Int64.ofInt (pw_gm h9 125 27))), none]) rfl rfl rfl rfl ?_
                              have hnx := (pv_nxS (p := pv_npm h b e) (w := pv_nwm h b e) (z := pv_nzm h) (by omega) hx36_0).1 (by rw [hw, hz]; omega)
                              rw [hw, hz] at hnx
                              refine pw_inc E (pc' := 176) (ls' := [some (.ref 141), some (pw_i b), some (pw_i e), some (pw_i k36_8), some (.long (Int64.ofInt ((pw_g h9 134 (k36_8.toNat)) * (1 + 0)))), none, some (.long (Int64.ofInt (pw_gm h9 125 27))), none, some (pw_i (k36_8 + 1)), some (pw_i (1 + 0)), some (.long (Int64.ofInt ((pw_g h9 134 (k36_8.toNat)) * (1 + 0)))), none, some (.long (Int64.ofInt (pw_gm h9 125 27))), none]) rfl rfl rfl rfl ?_
                              refine pw_goto E (pc' := 36) rfl (by decide) ?_
                              exact ih36 _ (by omega) (k36_8) ((pw_g h9 134 (k36_8.toNat)) * (1 + 0)) (pw_gm h9 125 27) (k36_8 + 1) (some (pw_i (1 + 0))) (some (.long (Int64.ofInt ((pw_g h9 134 (k36_8.toNat)) * (1 + 0))))) (some (.long (Int64.ofInt (pw_gm h9 125 27))))  (by omega) (by omega) (by omega) (by omega) (by omega) (by omega) (by omega) (by omega) hnx rfl
                            · intro hc89
                              change ¬ (k36_3 < (0 : Int)) at hc89
                              refine pw_ld E (pc' := 150) (st' := [.long (Int64.ofInt ((pw_g h9 134 (k36_8.toNat)) * (1 + 0)))]) rfl (fun _ => rfl) ?_
                              refine pw_ld E (pc' := 152) (st' := [.long (Int64.ofInt k36_6), .long (Int64.ofInt ((pw_g h9 134 (k36_8.toNat)) * (1 + 0)))]) rfl (fun _ => rfl) ?_
                              have hm90 := pw_mulB (a := (pw_g h9 134 (k36_8.toNat)) * (1 + 0)) (b := k36_6) (A := 99) (B := 24) (by omega) (by omega) (by omega) (by omega)
                              refine pw_lmul E (pc' := 153) rfl rfl ?_
                              refine pw_ld E (pc' := 155) (st' := [.long (Int64.ofInt k36_4), .long (Int64.ofInt (((pw_g h9 134 (k36_8.toNat)) * (1 + 0)) * k36_6))]) rfl (fun _ => rfl) ?_
                              refine pw_ld E (pc' := 157) (st' := [.long (Int64.ofInt (pw_gm h9 125 27)), .long (Int64.ofInt k36_4), .long (Int64.ofInt (((pw_g h9 134 (k36_8.toNat)) * (1 + 0)) * k36_6))]) rfl (fun _ => rfl) ?_
                              have hm91 := pw_mulB (a := k36_4) (b := pw_gm h9 125 27) (A := 198) (B := 24) (by omega) (by omega) (by omega) (by omega)
                              refine pw_lmul E (pc' := 158) rfl rfl ?_
                              refine pw_lcmpC E (pc' := 159) rfl rfl (by omega) (by omega) (by omega) (by omega) (fun c92 hc92 => ?_)
                              refine pw_if E (pc' := 173) rfl (by decide) (by omega) (by omega) ?_ ?_
                              · intro hc93
                                change c92 ≤ (0 : Int) at hc93
                                have hnx := (pv_nxS (p := pv_npm h b e) (w := pv_nwm h b e) (z := pv_nzm h) (by omega) hx36_0).2 (by rw [hw, hz]; omega)
                                refine pw_inc E (pc' := 176) (ls' := [some (.ref 141), some (pw_i b), some (pw_i e), some (pw_i k36_3), some (.long (Int64.ofInt k36_4)), none, some (.long (Int64.ofInt k36_6)), none, some (pw_i (k36_8 + 1)), some (pw_i (1 + 0)), some (.long (Int64.ofInt ((pw_g h9 134 (k36_8.toNat)) * (1 + 0)))), none, some (.long (Int64.ofInt (pw_gm h9 125 27))), none]) rfl rfl rfl rfl ?_
                                refine pw_goto E (pc' := 36) rfl (by decide) ?_
                                exact ih36 _ (by omega) (k36_3) (k36_4) (k36_6) (k36_8 + 1) (some (pw_i (1 + 0))) (some (.long (Int64.ofInt ((pw_g h9 134 (k36_8.toNat)) * (1 + 0))))) (some (.long (Int64.ofInt (pw_gm h9 125 27))))  (by omega) (by omega) (by omega) (by omega) (by omega) (by omega) (by omega) (by omega) hnx rfl
                              · intro hc94
                                change ¬ (c92 ≤ (0 : Int)) at hc94
                                refine pw_ld E (pc' := 164) (st' := [pw_i k36_8]) rfl (fun _ => rfl) ?_
                                refine pw_istn E (pc' := 165) (ls' := [some (.ref 141), some (pw_i b), some (pw_i e), some (pw_i k36_8), some (.long (Int64.ofInt k36_4)), none, some (.long (Int64.ofInt k36_6)), none, some (pw_i k36_8), some (pw_i (1 + 0)), some (.long (Int64.ofInt ((pw_g h9 134 (k36_8.toNat)) * (1 + 0)))), none, some (.long (Int64.ofInt (pw_gm h9 125 27))), none]) rfl rfl rfl rfl ?_
                                refine pw_ld E (pc' := 167) (st' := [.long (Int64.ofInt ((pw_g h9 134 (k36_8.toNat)) * (1 + 0)))]) rfl (fun _ => rfl) ?_
                                refine pw_lst E (pc' := 169) (ls' := [some (.ref 141), some (pw_i b), some (pw_i e), some (pw_i k36_8), some (.long (Int64.ofInt ((pw_g h9 134 (k36_8.toNat)) * (1 + 0)))), none, some (.long (Int64.ofInt k36_6)), none, some (pw_i k36_8), some (pw_i (1 + 0)), some (.long (Int64.ofInt ((pw_g h9 134 (k36_8.toNat)) * (1 + 0)))), none, some (.long (Int64.ofInt (pw_gm h9 125 27))), none]) rfl rfl rfl rfl ?_
                                refine pw_ld E (pc' := 171) (st' := [.long (Int64.ofInt (pw_gm h9 125 27))]) rfl (fun _ => rfl) ?_
                                refine pw_lst E (pc' := 173) (ls' := [some (.ref 141), some (pw_i b), some (pw_i e), some (pw_i k36_8), some (.long (Int64.ofInt ((pw_g h9 134 (k36_8.toNat)) * (1 + 0)))), none, some (.long (Int64.ofInt (pw_gm h9 125 27))), none, some (pw_i k36_8), some (pw_i (1 + 0)), some (.long (Int64.ofInt ((pw_g h9 134 (k36_8.toNat)) * (1 + 0)))), none, some (.long (Int64.ofInt (pw_gm h9 125 27))), none]) rfl rfl rfl rfl ?_
                                have hnx := (pv_nxS (p := pv_npm h b e) (w := pv_nwm h b e) (z := pv_nzm h) (by omega) hx36_0).1 (by rw [hw, hz]; omega)
                                rw [hw, hz] at hnx
                                refine pw_inc E (pc' := 176) (ls' := [some (.ref 141), some (pw_i b), some (pw_i e), some (pw_i k36_8), some (.long (Int64.ofInt ((pw_g h9 134 (k36_8.toNat)) * (1 + 0)))), none, some (.long (Int64.ofInt (pw_gm h9 125 27))), none, some (pw_i (k36_8 + 1)), some (pw_i (1 + 0)), some (.long (Int64.ofInt ((pw_g h9 134 (k36_8.toNat)) * (1 + 0)))), none, some (.long (Int64.ofInt (pw_gm h9 125 27))), none]) rfl rfl rfl rfl ?_
                                refine pw_goto E (pc' := 36) rfl (by decide) ?_
                                exact ih36 _ (by omega) (k36_8) ((pw_g h9 134 (k36_8.toNat)) * (1 + 0)) (pw_gm h9 125 27) (k36_8 + 1) (some (pw_i (1 + 0))) (some (.long (Int64.ofInt ((pw_g h9 134 (k36_8.toNat)) * (1 + 0))))) (some (.long (Int64.ofInt (pw_gm h9 125 27))))  (by omega) (by omega) (by omega) (by omega) (by omega) (by omega) (by omega) (by omega) hnx rfl
                        · intro hc95
                          change ¬ (pw_g h9 138 (((12 * k36_8) + e).toNat) ≠ (0 : Int)) at hc95
                          refine pw_ld E (pc' := 100) (st' := [pw_i 1, pw_i 1]) rfl (fun _ => rfl) ?_
                          refine pw_goto E (pc' := 104) rfl (by decide) ?_
                          refine pw_add E (pc' := 105) rfl rfl ?_
                          refine pw_ist E (pc' := 107) (ls' := [some (.ref 141), some (pw_i b), some (pw_i e), some (pw_i k36_3), some (.long (Int64.ofInt k36_4)), none, some (.long (Int64.ofInt k36_6)), none, some (pw_i k36_8), some (pw_i (1 + 1)), k36_10, none, k36_12, none]) rfl rfl rfl rfl ?_
                          refine pw_ld E (pc' := 108) (st' := [.ref 141]) rfl (fun _ => rfl) ?_
                          refine pw_getR (b := 150) h9I E (c := 125) (k := 13) (pc' := 111) rfl rfl rfl rfl rfl rfl rfl ?_
                          refine pw_ld E (pc' := 113) (st' := [pw_i k36_8, .ref 150]) rfl (fun _ => rfl) ?_
                          refine pw_ald2 h9I E (c := 134) (pc' := 114) rfl rfl rfl (by decide) rfl (by decide) (by omega) (by omega) rfl (fun hf96a hf96b => ?_)
                          refine pw_i2l E (pc' := 115) rfl rfl (by omega) (by omega) ?_
                          refine pw_ld E (pc' := 117) (st' := [pw_i (1 + 1), .long (Int64.ofInt (pw_g h9 134 (k36_8.toNat)))]) rfl (fun _ => rfl) ?_
                          refine pw_i2l E (pc' := 118) rfl rfl (by decide) (by decide) ?_
                          refine pw_lmul E (pc' := 119) rfl rfl ?_
                          refine pw_lst E (pc' := 121) (ls' := [some (.ref 141), some (pw_i b), some (pw_i e), some (pw_i k36_3), some (.long (Int64.ofInt k36_4)), none, some (.long (Int64.ofInt k36_6)), none, some (pw_i k36_8), some (pw_i (1 + 1)), some (.long (Int64.ofInt ((pw_g h9 134 (k36_8.toNat)) * (1 + 1)))), none, k36_12, none]) rfl rfl rfl rfl ?_
                          refine pw_ld E (pc' := 122) (st' := [.ref 141]) rfl (fun _ => rfl) ?_
                          refine pw_getR (b := 148) h9I E (c := 125) (k := 11) (pc' := 125) rfl rfl rfl rfl rfl rfl rfl ?_
                          refine pw_ld E (pc' := 127) (st' := [pw_i k36_8, .ref 148]) rfl (fun _ => rfl) ?_
                          refine pw_ald2 h9I E (c := 132) (pc' := 128) rfl rfl rfl (by decide) rfl (by decide) (by omega) (by omega) rfl (fun hf97a hf97b => ?_)
                          refine pw_if E (pc' := 138) rfl (by decide) (by omega) (by omega) ?_ ?_
                          · intro hc98
                            change pw_g h9 132 (k36_8.toNat) ≠ (0 : Int) at hc98
                            refine pw_ld E (pc' := 139) (st' := [.ref 141]) rfl (fun _ => rfl) ?_
                            refine pw_getM h9I E (c := 125) (k := 29) (pc' := 142) rfl rfl rfl rfl rfl rfl (fun hf99a hf99b => ?_)
                            refine pw_lst E (pc' := 144) (ls' := [some (.ref 141), some (pw_i b), some (pw_i e), some (pw_i k36_3), some (.long (Int64.ofInt k36_4)), none, some (.long (Int64.ofInt k36_6)), none, some (pw_i k36_8), some (pw_i (1 + 1)), some (.long (Int64.ofInt ((pw_g h9 134 (k36_8.toNat)) * (1 + 1)))), none, some (.long (Int64.ofInt (pw_gm h9 125 29))), none]) rfl rfl rfl rfl ?_
                            have ib := pv_ite1 (p := pw_g h 138 (12 * k36_8 + b).toNat = 0)
                            have ie := pv_ite1 (p := pw_g h 138 (12 * k36_8 + e).toNat = 0)
                            have hsa : pv_sam h b e k36_8 = 1 + 1 := by unfold pv_sam; omega
                            have hw : pv_nwm h b e (k36_8).toNat = (pw_g h9 134 (k36_8.toNat)) * (1 + 1) := by unfold pv_nwm; rw [show ((k36_8.toNat : Nat) : Int) = k36_8 by omega, hsa, q6]
                            have hz : pv_nzm h (k36_8).toNat = pw_gm h9 125 29 := by unfold pv_nzm; rw [show pw_g h 132 (k36_8).toNat = 1 by omega]; omega
                            clear ib ie
                            refine pw_ld E (pc' := 145) (st' := [pw_i k36_3]) rfl (fun _ => rfl) ?_
                            refine pw_if E (pc' := 162) rfl (by decide) (by omega) (by omega) ?_ ?_
                            · intro hc100
                              change k36_3 < (0 : Int) at hc100
                              refine pw_ld E (pc' := 164) (st' := [pw_i k36_8]) rfl (fun _ => rfl) ?_
                              refine pw_istn E (pc' := 165) (ls' := [some (.ref 141), some (pw_i b), some (pw_i e), some (pw_i k36_8), some (.long (Int64.ofInt k36_4)), none, some (.long (Int64.ofInt k36_6)), none, some (pw_i k36_8), some (pw_i (1 + 1)), some (.long (Int64.ofInt ((pw_g h9 134 (k36_8.toNat)) * (1 + 1)))), none, some (.long (Int64.ofInt (pw_gm h9 125 29))), none]) rfl rfl rfl rfl ?_
                              refine pw_ld E (pc' := 167) (st' := [.long (Int64.ofInt ((pw_g h9 134 (k36_8.toNat)) * (1 + 1)))]) rfl (fun _ => rfl) ?_
                              refine pw_lst E (pc' := 169) (ls' := [some (.ref 141), some (pw_i b), some (pw_i e), some (pw_i k36_8), some (.long (Int64.ofInt ((pw_g h9 134 (k36_8.toNat)) * (1 + 1)))), none, some (.long (Int64.ofInt k36_6)), none, some (pw_i k36_8), some (pw_i (1 + 1)), some (.long (Int64.ofInt ((pw_g h9 134 (k36_8.toNat)) * (1 + 1)))), none, some (.long (Int64.ofInt (pw_gm h9 125 29))), none]) rfl rfl rfl rfl ?_
                              refine pw_ld E (pc' := 171) (st' := [.long (Int64.ofInt (pw_gm h9 125 29))]) rfl (fun _ => rfl) ?_
                              refine pw_lst E (pc' := 173) (ls' := [some (.ref 141), some (pw_i b), some (pw_i e), some (pw_i k36_8), some (.long (Int64.ofInt ((pw_g h9 134 (k36_8.toNat)) * (1 + 1)))), none, some (.long (Int64.ofInt (pw_gm h9 125 29))), none, some (pw_i k36_8), some (pw_i (1 + 1)), some (.long (Int64.ofInt ((pw_g h9 134 (k36_8.toNat)) * (1 + 1)))), none, some (.long (Int64.ofInt (pw_gm h9 125 29))), none]) rfl rfl rfl rfl ?_
                              have hnx := (pv_nxS (p := pv_npm h b e) (w := pv_nwm h b e) (z := pv_nzm h) (by omega) hx36_0).1 (by rw [hw, hz]; omega)
                              rw [hw, hz] at hnx
                              refine pw_inc E (pc' := 176) (ls' := [some (.ref 141), some (pw_i b), some (pw_i e), some (pw_i k36_8), some (.long (Int64.ofInt ((pw_g h9 134 (k36_8.toNat)) * (1 + 1)))), none, some (.long (Int64.ofInt (pw_gm h9 125 29))), none, some (pw_i (k36_8 + 1)), some (pw_i (1 + 1)), some (.long (Int64.ofInt ((pw_g h9 134 (k36_8.toNat)) * (1 + 1)))), none, some (.long (Int64.ofInt (pw_gm h9 125 29))), none]) rfl rfl rfl rfl ?_
                              refine pw_goto E (pc' := 36) rfl (by decide) ?_
                              exact ih36 _ (by omega) (k36_8) ((pw_g h9 134 (k36_8.toNat)) * (1 + 1)) (pw_gm h9 125 29) (k36_8 + 1) (some (pw_i (1 + 1))) (some (.long (Int64.ofInt ((pw_g h9 134 (k36_8.toNat)) * (1 + 1))))) (some (.long (Int64.ofInt (pw_gm h9 125 29))))  (by omega) (by omega) (by omega) (by omega) (by omega) (by omega) (by omega) (by omega) hnx rfl
                            · intro hc101
                              change ¬ (k36_3 < (0 : Int)) at hc101
                              refine pw_ld E (pc' := 150) (st' := [.long (Int64.ofInt ((pw_g h9 134 (k36_8.toNat)) * (1 + 1)))]) rfl (fun _ => rfl) ?_
                              refine pw_ld E (pc' := 152) (st' := [.long (Int64.ofInt k36_6), .long (Int64.ofInt ((pw_g h9 134 (k36_8.toNat)) * (1 + 1)))]) rfl (fun _ => rfl) ?_
                              have hm102 := pw_mulB (a := (pw_g h9 134 (k36_8.toNat)) * (1 + 1)) (b := k36_6) (A := 198) (B := 24) (by omega) (by omega) (by omega) (by omega)
                              refine pw_lmul E (pc' := 153) rfl rfl ?_
                              refine pw_ld E (pc' := 155) (st' := [.long (Int64.ofInt k36_4), .long (Int64.ofInt (((pw_g h9 134 (k36_8.toNat)) * (1 + 1)) * k36_6))]) rfl (fun _ => rfl) ?_
                              refine pw_ld E (pc' := 157) (st' := [.long (Int64.ofInt (pw_gm h9 125 29)), .long (Int64.ofInt k36_4), .long (Int64.ofInt (((pw_g h9 134 (k36_8.toNat)) * (1 + 1)) * k36_6))]) rfl (fun _ => rfl) ?_
                              have hm103 := pw_mulB (a := k36_4) (b := pw_gm h9 125 29) (A := 198) (B := 24) (by omega) (by omega) (by omega) (by omega)
                              refine pw_lmul E (pc' := 158) rfl rfl ?_
                              refine pw_lcmpC E (pc' := 159) rfl rfl (by omega) (by omega) (by omega) (by omega) (fun c104 hc104 => ?_)
                              refine pw_if E (pc' := 173) rfl (by decide) (by omega) (by omega) ?_ ?_
                              · intro hc105
                                change c104 ≤ (0 : Int) at hc105
                                have hnx := (pv_nxS (p := pv_npm h b e) (w := pv_nwm h b e) (z := pv_nzm h) (by omega) hx36_0).2 (by rw [hw, hz]; omega)
                                refine pw_inc E (pc' := 176) (ls' := [some (.ref 141), some (pw_i b), some (pw_i e), some (pw_i k36_3), some (.long (Int64.ofInt k36_4)), none, some (.long (Int64.ofInt k36_6)), none, some (pw_i (k36_8 + 1)), some (pw_i (1 + 1)), some (.long (Int64.ofInt ((pw_g h9 134 (k36_8.toNat)) * (1 + 1)))), none, some (.long (Int64.ofInt (pw_gm h9 125 29))), none]) rfl rfl rfl rfl ?_
                                refine pw_goto E (pc' := 36) rfl (by decide) ?_
                                exact ih36 _ (by omega) (k36_3) (k36_4) (k36_6) (k36_8 + 1) (some (pw_i (1 + 1))) (some (.long (Int64.ofInt ((pw_g h9 134 (k36_8.toNat)) * (1 + 1))))) (some (.long (Int64.ofInt (pw_gm h9 125 29))))  (by omega) (by omega) (by omega) (by omega) (by omega) (by omega) (by omega) (by omega) hnx rfl
                              · intro hc106
                                change ¬ (c104 ≤ (0 : Int)) at hc106
                                refine pw_ld E (pc' := 164) (st' := [pw_i k36_8]) rfl (fun _ => rfl) ?_
                                refine pw_istn E (pc' := 165) (ls' := [some (.ref 141), some (pw_i b), some (pw_i e), some (pw_i k36_8), some (.long (Int64.ofInt k36_4)), none, some (.long (Int64.ofInt k36_6)), none, some (pw_i k36_8), some (pw_i (1 + 1)), some (.long (Int64.ofInt ((pw_g h9 134 (k36_8.toNat)) * (1 + 1)))), none, some (.long (Int64.ofInt (pw_gm h9 125 29))), none]) rfl rfl rfl rfl ?_
                                refine pw_ld E (pc' := 167) (st' := [.long (Int64.ofInt ((pw_g h9 134 (k36_8.toNat)) * (1 + 1)))]) rfl (fun _ => rfl) ?_
                                refine pw_lst E (pc' := 169) (ls' := [some (.ref 141), some (pw_i b), some (pw_i e), some (pw_i k36_8), some (.long (Int64.ofInt ((pw_g h9 134 (k36_8.toNat)) * (1 + 1)))), none, some (.long (Int64.ofInt k36_6)), none, some (pw_i k36_8), some (pw_i (1 + 1)), some (.long (Int64.ofInt ((pw_g h9 134 (k36_8.toNat)) * (1 + 1)))), none, some (.long (Int64.ofInt (pw_gm h9 125 29))), none]) rfl rfl rfl rfl ?_
                                refine pw_ld E (pc' := 171) (st' := [.long (Int64.ofInt (pw_gm h9 125 29))]) rfl (fun _ => rfl) ?_
                                refine pw_lst E (pc' := 173) (ls' := [some (.ref 141), some (pw_i b), some (pw_i e), some (pw_i k36_8), some (.long (Int64.ofInt ((pw_g h9 134 (k36_8.toNat)) * (1 + 1)))), none, some (.long (Int64.ofInt (pw_gm h9 125 29))), none, some (pw_i k36_8), some (pw_i (1 + 1)), some (.long (Int64.ofInt ((pw_g h9 134 (k36_8.toNat)) * (1 + 1)))), none, some (.long (Int64.ofInt (pw_gm h9 125 29))), none]) rfl rfl rfl rfl ?_
                                have hnx := (pv_nxS (p := pv_npm h b e) (w := pv_nwm h b e) (z := pv_nzm h) (by omega) hx36_0).1 (by rw [hw, hz]; omega)
                                rw [hw, hz] at hnx
                                refine pw_inc E (pc' := 176) (ls' := [some (.ref 141), some (pw_i b), some (pw_i e), some (pw_i k36_8), some (.long (Int64.ofInt ((pw_g h9 134 (k36_8.toNat)) * (1 + 1)))), none, some (.long (Int64.ofInt (pw_gm h9 125 29))), none, some (pw_i (k36_8 + 1)), some (pw_i (1 + 1)), some (.long (Int64.ofInt ((pw_g h9 134 (k36_8.toNat)) * (1 + 1)))), none, some (.long (Int64.ofInt (pw_gm h9 125 29))), none]) rfl rfl rfl rfl ?_
                                refine pw_goto E (pc' := 36) rfl (by decide) ?_
                                exact ih36 _ (by omega) (k36_8) ((pw_g h9 134 (k36_8.toNat)) * (1 + 1)) (pw_gm h9 125 29) (k36_8 + 1) (some (pw_i (1 + 1))) (some (.long (Int64.ofInt ((pw_g h9 134 (k36_8.toNat)) * (1 + 1))))) (some (.long (Int64.ofInt (pw_gm h9 125 29))))  (by omega) (by omega) (by omega) (by omega) (by omega) (by omega) (by omega) (by omega) hnx rfl
                          · intro hc107
                            change ¬ (pw_g h9 132 (k36_8.toNat) ≠ (0 : Int)) at hc107
                            refine pw_ld E (pc' := 132) (st' := [.ref 141]) rfl (fun _ => rfl) ?_
                            refine pw_getM h9I E (c := 125) (k := 27) (pc' := 135) rfl rfl rfl rfl rfl rfl (fun hf108a hf108b => ?_)
                            refine pw_goto E (pc' := 142) rfl (by decide) ?_
                            refine pw_lst E (pc' := 144) (ls' := [some (.ref 141), some (pw_i b), some (pw_i e), some (pw_i k36_3), some (.long (Int64.ofInt k36_4)), none, some (.long (Int64.ofInt k36_6)), none, some (pw_i k36_8), some (pw_i (1 + 1)), some (.long (Int64.ofInt ((pw_g h9 134 (k36_8.toNat)) * (1 + 1)))), none, some (.long (Int64.ofInt (pw_gm h9 125 27))), none]) rfl rfl rfl rfl ?_
                            have ib := pv_ite1 (p := pw_g h 138 (12 * k36_8 + b).toNat = 0)
                            have ie := pv_ite1 (p := pw_g h 138 (12 * k36_8 + e).toNat = 0)
                            have hsa : pv_sam h b e k36_8 = 1 + 1 := by unfold pv_sam; omega
                            have hw : pv_nwm h b e (k36_8).toNat = (pw_g h9 134 (k36_8.toNat)) * (1 + 1) := by unfold pv_nwm; rw [show ((k36_8.toNat : Nat) : Int) = k36_8 by omega, hsa, q6]
                            have hz : pv_nzm h (k36_8).toNat = pw_gm h9 125 27 := by unfold pv_nzm; rw [show pw_g h 132 (k36_8).toNat = 0 by omega]; omega
                            clear ib ie
                            refine pw_ld E (pc' := 145) (st' := [pw_i k36_3]) rfl (fun _ => rfl) ?_
                            refine pw_if E (pc' := 162) rfl (by decide) (by omega) (by omega) ?_ ?_
                            · intro hc109
                              change k36_3 < (0 : Int) at hc109
                              refine pw_ld E (pc' := 164) (st' := [pw_i k36_8]) rfl (fun _ => rfl) ?_
                              refine pw_istn E (pc' := 165) (ls' := [some (.ref 141), some (pw_i b), some (pw_i e), some (pw_i k36_8), some (.long (Int64.ofInt k36_4)), none, some (.long (Int64.ofInt k36_6)), none, some (pw_i k36_8), some (pw_i (1 + 1)), some (.long (Int64.ofInt ((pw_g h9 134 (k36_8.toNat)) * (1 + 1)))), none, some (.long (Int64.ofInt (pw_gm h9 125 27))), none]) rfl rfl rfl rfl ?_
                              refine pw_ld E (pc' := 167) (st' := [.long (Int64.ofInt ((pw_g h9 134 (k36_8.toNat)) * (1 + 1)))]) rfl (fun _ => rfl) ?_
                              refine pw_lst E (pc' := 169) (ls' := [some (.ref 141), some (pw_i b), some (pw_i e), some (pw_i k36_8), some (.long (Int64.ofInt ((pw_g h9 134 (k36_8.toNat)) * (1 + 1)))), none, some (.long (Int64.ofInt k36_6)), none, some (pw_i k36_8), some (pw_i (1 + 1)), some (.long (Int64.ofInt ((pw_g h9 134 (k36_8.toNat)) * (1 + 1)))), none, some (.long (Int64.ofInt (pw_gm h9 125 27))), none]) rfl rfl rfl rfl ?_
                              refine pw_ld E (pc' := 171) (st' := [.long (Int64.ofInt (pw_gm h9 125 27))]) rfl (fun _ => rfl) ?_
                              refine pw_lst E (pc' := 173) (ls' := [some (.ref 141), some (pw_i b), some (pw_i e), some (pw_i k36_8), some (.long (Int64.ofInt ((pw_g h9 134 (k36_8.toNat)) * (1 + 1)))), none, some (.long (Int64.ofInt (pw_gm h9 125 27))), none, some (pw_i k36_8), some (pw_i (1 + 1)), some (.long (Int64.ofInt ((pw_g h9 134 (k36_8.toNat)) * (1 + 1)))), none, some (.long (Int64.ofInt (pw_gm h9 125 27))), none]) rfl rfl rfl rfl ?_
                              have hnx := (pv_nxS (p := pv_npm h b e) (w := pv_nwm h b e) (z := pv_nzm h) (by omega) hx36_0).1 (by rw [hw, hz]; omega)
                              rw [hw, hz] at hnx
                              refine pw_inc E (pc' := 176) (ls' := [some (.ref 141), some (pw_i b), some (pw_i e), some (pw_i k36_8), some (.long (Int64.ofInt ((pw_g h9 134 (k36_8.toNat)) * (1 + 1)))), none, some (.long (Int64.ofInt (pw_gm h9 125 27))), none, some (pw_i (k36_8 + 1)), some (pw_i (1 + 1)), some (.long (Int64.ofInt ((pw_g h9 134 (k36_8.toNat)) * (1 + 1)))), none, some (.long (Int64.ofInt (pw_gm h9 125 27))), none]) rfl rfl rfl rfl ?_
                              refine pw_goto E (pc' := 36) rfl (by decide) ?_
                              exact ih36 _ (by omega) (k36_8) ((pw_g h9 134 (k36_8.toNat)) * (1 + 1)) (pw_gm h9 125 27) (k36_8 + 1) (some (pw_i (1 + 1))) (some (.long (Int64.ofInt ((pw_g h9 134 (k36_8.toNat)) * (1 + 1))))) (some (.long (Int64.ofInt (pw_gm h9 125 27))))  (by omega) (by omega) (by omega) (by omega) (by omega) (by omega) (by omega) (by omega) hnx rfl
                            · intro hc110
                              change ¬ (k36_3 < (0 : Int)) at hc110
                              refine pw_ld E (pc' := 150) (st' := [.long (Int64.ofInt ((pw_g h9 134 (k36_8.toNat)) * (1 + 1)))]) rfl (fun _ => rfl) ?_
                              refine pw_ld E (pc' := 152) (st' := [.long (Int64.ofInt k36_6), .long (Int64.ofInt ((pw_g h9 134 (k36_8.toNat)) * (1 + 1)))]) rfl (fun _ => rfl) ?_
                              have hm111 := pw_mulB (a := (pw_g h9 134 (k36_8.toNat)) * (1 + 1)) (b := k36_6) (A := 198) (B := 24) (by omega) (by omega) (by omega) (by omega)
                              refine pw_lmul E (pc' := 153) rfl rfl ?_
                              refine pw_ld E (pc' := 155) (st' := [.long (Int64.ofInt k36_4), .long (Int64.ofInt (((pw_g h9 134 (k36_8.toNat)) * (1 + 1)) * k36_6))]) rfl (fun _ => rfl) ?_
                              refine pw_ld E (pc' := 157) (st' := [.long (Int64.ofInt (pw_gm h9 125 27)), .long (Int64.ofInt k36_4), .long (Int64.ofInt (((pw_g h9 134 (k36_8.toNat)) * (1 + 1)) * k36_6))]) rfl (fun _ => rfl) ?_
                              have hm112 := pw_mulB (a := k36_4) (b := pw_gm h9 125 27) (A := 198) (B := 24) (by omega) (by omega) (by omega) (by omega)
                              refine pw_lmul E (pc' := 158) rfl rfl ?_
                              refine pw_lcmpC E (pc' := 159) rfl rfl (by omega) (by omega) (by omega) (by omega) (fun c113 hc113 => ?_)
                              refine pw_if E (pc' := 173) rfl (by decide) (by omega) (by omega) ?_ ?_
                              · intro hc114
                                change c113 ≤ (0 : Int) at hc114
                                have hnx := (pv_nxS (p := pv_npm h b e) (w := pv_nwm h b e) (z := pv_nzm h) (by omega) hx36_0).2 (by rw [hw, hz]; omega)
                                refine pw_inc E (pc' := 176) (ls' := [some (.ref 141), some (pw_i b), some (pw_i e), some (pw_i k36_3), some (.long (Int64.ofInt k36_4)), none, some (.long (Int64.ofInt k36_6)), none, some (pw_i (k36_8 + 1)), some (pw_i (1 + 1)), some (.long (Int64.ofInt ((pw_g h9 134 (k36_8.toNat)) * (1 + 1)))), none, some (.long (Int64.ofInt (pw_gm h9 125 27))), none]) rfl rfl rfl rfl ?_
                                refine pw_goto E (pc' := 36) rfl (by decide) ?_
                                exact ih36 _ (by omega) (k36_3) (k36_4) (k36_6) (k36_8 + 1) (some (pw_i (1 + 1))) (some (.long (Int64.ofInt ((pw_g h9 134 (k36_8.toNat)) * (1 + 1))))) (some (.long (Int64.ofInt (pw_gm h9 125 27))))  (by omega) (by omega) (by omega) (by omega) (by omega) (by omega) (by omega) (by omega) hnx rfl
                              · intro hc115
                                change ¬ (c113 ≤ (0 : Int)) at hc115
                                refine pw_ld E (pc' := 164) (st' := [pw_i k36_8]) rfl (fun _ => rfl) ?_
                                refine pw_istn E (pc' := 165) (ls' := [some (.ref 141), some (pw_i b), some (pw_i e), some (pw_i k36_8), some (.long (Int64.ofInt k36_4)), none, some (.long (Int64.ofInt k36_6)), none, some (pw_i k36_8), some (pw_i (1 + 1)), some (.long (Int64.ofInt ((pw_g h9 134 (k36_8.toNat)) * (1 + 1)))), none, some (.long (Int64.ofInt (pw_gm h9 125 27))), none]) rfl rfl rfl rfl ?_
                                refine pw_ld E (pc' := 167) (st' := [.long (Int64.ofInt ((pw_g h9 134 (k36_8.toNat)) * (1 + 1)))]) rfl (fun _ => rfl) ?_
                                refine pw_lst E (pc' := 169) (ls' := [some (.ref 141), some (pw_i b), some (pw_i e), some (pw_i k36_8), some (.long (Int64.ofInt ((pw_g h9 134 (k36_8.toNat)) * (1 + 1)))), none, some (.long (Int64.ofInt k36_6)), none, some (pw_i k36_8), some (pw_i (1 + 1)), some (.long (Int64.ofInt ((pw_g h9 134 (k36_8.toNat)) * (1 + 1)))), none, some (.long (Int64.ofInt (pw_gm h9 125 27))), none]) rfl rfl rfl rfl ?_
                                refine pw_ld E (pc' := 171) (st' := [.long (Int64.ofInt (pw_gm h9 125 27))]) rfl (fun _ => rfl) ?_
                                refine pw_lst E (pc' := 173) (ls' := [some (.ref 141), some (pw_i b), some (pw_i e), some (pw_i k36_8), some (.long (Int64.ofInt ((pw_g h9 134 (k36_8.toNat)) * (1 + 1)))), none, some (.long (Int64.ofInt (pw_gm h9 125 27))), none, some (pw_i k36_8), some (pw_i (1 + 1)), some (.long (Int64.ofInt ((pw_g h9 134 (k36_8.toNat)) * (1 + 1)))), none, some (.long (Int64.ofInt (pw_gm h9 125 27))), none]) rfl rfl rfl rfl ?_
                                have hnx := (pv_nxS (p := pv_npm h b e) (w := pv_nwm h b e) (z := pv_nzm h) (by omega) hx36_0).1 (by rw [hw, hz]; omega)
                                rw [hw, hz] at hnx
                                refine pw_inc E (pc' := 176) (ls' := [some (.ref 141), some (pw_i b), some (pw_i e), some (pw_i k36_8), some (.long (Int64.ofInt ((pw_g h9 134 (k36_8.toNat)) * (1 + 1)))), none, some (.long (Int64.ofInt (pw_gm h9 125 27))), none, some (pw_i (k36_8 + 1)), some (pw_i (1 + 1)), some (.long (Int64.ofInt ((pw_g h9 134 (k36_8.toNat)) * (1 + 1)))), none, some (.long (Int64.ofInt (pw_gm h9 125 27))), none]) rfl rfl rfl rfl ?_
                                refine pw_goto E (pc' := 36) rfl (by decide) ?_
                                exact ih36 _ (by omega) (k36_8) ((pw_g h9 134 (k36_8.toNat)) * (1 + 1)) (pw_gm h9 125 27) (k36_8 + 1) (some (pw_i (1 + 1))) (some (.long (Int64.ofInt ((pw_g h9 134 (k36_8.toNat)) * (1 + 1))))) (some (.long (Int64.ofInt (pw_gm h9 125 27))))  (by omega) (by omega) (by omega) (by omega) (by omega) (by omega) (by omega) (by omega) hnx rfl
          exact L36 _ ((-1)) (0) (1) (0) (none) (none) (none)  (by omega) (by omega) (by omega) (by omega) (by omega) (by omega) (by omega) (by omega) rfl rfl
        · intro hc116
          change ¬ (x11 ≠ (0 : Int)) at hc116
          exfalso; omega
      · skip
        refine pw_if E (pc' := 25) rfl (by decide) (by omega) (by omega) ?_ ?_
        · intro hc118
          change x11 ≠ (0 : Int) at hc118
          exfalso; omega
        · intro hc119
          change ¬ (x11 ≠ (0 : Int)) at hc119
          rw [pv_sdbmE I h1F rfl, pv_chbmE I h1F rfl] at hx11r
          refine pw_ld E (pc' := 24) (st' := [pw_i ((-1))]) rfl (fun _ => rfl) ?_
          refine pw_iret E rfl ?_
          exact ⟨h9I, h9F, ⟨_, rfl, by omega, by omega, Or.inr ⟨Or.inr (hx11r.1.resolve_left (fun q => by have := q.1; omega)).2, rfl⟩⟩⟩
  · skip
    refine pw_if E (pc' := 23) rfl (by decide) (by omega) (by omega) ?_ ?_
    · intro hc121
      change x4 = (0 : Int) at hc121
      refine pw_ld E (pc' := 24) (st' := [pw_i ((-1))]) rfl (fun _ => rfl) ?_
      refine pw_iret E rfl ?_
      exact ⟨h1I, h1F, ⟨_, rfl, by omega, by omega, Or.inr ⟨Or.inl (by omega), rfl⟩⟩⟩
    · intro hc122
      change ¬ (x4 = (0 : Int)) at hc122
      exfalso; omega
