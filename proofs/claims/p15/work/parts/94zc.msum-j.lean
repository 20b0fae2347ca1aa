section
/-! the model's sums, exactly (printed by wip/tool/mmsum.py) -/
theorem pv_okD {n0 n1 a : Int} (h0 : 0 ≤ n0) (h1 : 0 ≤ n1) (r : (a = 1 ∧ 0 < n0 * n1) ∨ (a = 0 ∧ n0 * n1 ≤ 0)) : (a = 1 ∧ (1 ≤ n0 ∧ 1 ≤ n1)) ∨ (a = 0 ∧ ¬ (1 ≤ n0 ∧ 1 ≤ n1)) := by
  rcases r with ⟨r1, r2⟩ | ⟨r1, r2⟩
  · refine Or.inl ⟨r1, ?_⟩
    rcases (by omega : n0 = 0 ∨ n1 = 0 ∨ (1 ≤ n0 ∧ 1 ≤ n1)) with q | q | q
    · rw [q, Int.zero_mul] at r2; omega
    · rw [q, Int.mul_zero] at r2; omega
    · exact q
  · refine Or.inr ⟨r1, fun q => ?_⟩
    have := pw_mulB (a := n0) (b := n1) (A := n0) (B := n1) h0 (Int.le_refl _) h1 (Int.le_refl _)
    have := this.2.2 q.1 q.2
    omega
theorem pv_loI {sd : Nat → Int} {wo k : Int} (hk : 0 ≤ k) : (k = wo → pv_lo sd wo k.toNat = -1) ∧ (k ≠ wo → pv_lo sd wo k.toNat = sd k.toNat) := by
  unfold pv_lo
  rw [show ((k.toNat : Nat) : Int) = k by omega]
  exact ⟨fun q => if_pos q, fun q => if_neg q⟩
theorem pv_hmB {w g t : Int} (h1 : 0 ≤ w) (h2 : w ≤ 99) (h3 : 0 ≤ g) (h4 : g ≤ 99) (h5 : 0 ≤ t) (h6 : t ≤ 10) : 0 ≤ pw_hm w g t ∧ pw_hm w g t ≤ 2000 := by
  unfold pw_hm
  have := pw_mulB (a := t) (b := g) (A := 10) (B := 99) h5 h6 h3 h4
  omega
/-- the sides by calls, of the model -/
def pv_sdm (h : pm_H) (b e : Int) (k : Nat) : Int := if pw_g h 131 k ≠ 0 ∧ pw_g h 138 (12 * (k : Int) + b).toNat ≠ 0 ∧ pw_g h 138 (12 * (k : Int) + e).toNat ≠ 0 then pw_g h 132 k else -1
def pv_hmk (h : pm_H) (mo : Int) (k : Int) : Int := pw_hm (pw_g h 139 (12 * k + mo).toNat) (pw_g h 140 (12 * k + mo).toNat) (pw_g h 125 15)
def pv_chm (h : pm_H) (b e : Int) (k : Nat) : Int := pv_hmk h e k - pv_hmk h b k
theorem pv_sdmI {h : pm_H} {b e k : Int} (hk : 0 ≤ k) : ((pw_g h 131 k.toNat ≠ 0 ∧ pw_g h 138 (12 * k + b).toNat ≠ 0 ∧ pw_g h 138 (12 * k + e).toNat ≠ 0) → pv_sdm h b e k.toNat = pw_g h 132 k.toNat) ∧ (¬ (pw_g h 131 k.toNat ≠ 0 ∧ pw_g h 138 (12 * k + b).toNat ≠ 0 ∧ pw_g h 138 (12 * k + e).toNat ≠ 0) → pv_sdm h b e k.toNat = -1) := by
  unfold pv_sdm
  rw [show ((k.toNat : Nat) : Int) = k by omega]
  exact ⟨fun q => if_pos q, fun q => if_neg q⟩
theorem pv_chmI {h : pm_H} {b e k : Int} (hk : 0 ≤ k) : pv_chm h b e k.toNat = pv_hmk h e k - pv_hmk h b k := by
  unfold pv_chm
  rw [show ((k.toNat : Nat) : Int) = k by omega]
theorem pv_hmkB {h : pm_H} {mo k : Int} (I : pw_I h) (h0 : 0 ≤ mo) (h1 : mo ≤ 11) (h2 : 0 ≤ k) (h3 : k ≤ 23) : 0 ≤ pv_hmk h mo k ∧ pv_hmk h mo k ≤ 2000 := by
  have t := pw_gI (c := 125) (k := 15) I rfl rfl
  have v1 := pw_gA (c := 139) (j := 12 * k + mo) I rfl (by decide) (by omega) (by omega)
  have v2 := pw_gA (c := 140) (j := 12 * k + mo) I rfl (by decide) (by omega) (by omega)
  exact pv_hmB (by omega) (by omega) (by omega) (by omega) (by omega) (by omega)
theorem pv_chmB {h : pm_H} {b e : Int} (I : pw_I h) (hb0 : 0 ≤ b) (hb1 : b ≤ 11) (he0 : 0 ≤ e) (he1 : e ≤ 11) : ∀ k : Nat, k < 24 → -2000 ≤ pv_chm h b e k ∧ pv_chm h b e k ≤ 2000 := by
  intro k hk
  unfold pv_chm
  have w1 := pv_hmkB (k := k) I hb0 hb1 (by omega) (by omega)
  have w2 := pv_hmkB (k := k) I he0 he1 (by omega) (by omega)
  omega
set_option maxHeartbeats 4000000 in
theorem cm_131_s {X : List (Nat × List Value)} {d : Nat} {h : pm_H} (hd : 3 ≤ d) (I : pw_I h) (b : Int) (hb1 : (-2147483648) ≤ b) (hb2 : b ≤ 2147483647) (e : Int) (he1 : (-2147483648) ≤ e) (he2 : e ≤ 2147483647) : pw X d h 131 0 [some (pw_i b), some (pw_i e)] [] (fun h' v => h = h' ∧ ∃ a : Int, v = .inl (some (pw_i a)) ∧ 0 ≤ a ∧ a ≤ 1 ∧ ((a = 1 ∧ 0 ≤ b ∧ b ≤ 11 ∧ 0 ≤ e ∧ e ≤ 11 ∧ b ≠ e) ∨ (a = 0 ∧ ¬ (0 ≤ b ∧ b ≤ 11 ∧ 0 ≤ e ∧ e ≤ 11 ∧ b ≠ e)))) := by
  have E : pm_ent 131 = some (2, 2, 11, 1, pmc_131) := rfl
  refine pw_ld E (pc' := 1) (st' := [pw_i b]) rfl (fun _ => rfl) ?_
  refine pw_call (m' := 125) (As := [pw_i b]) (rest := []) (ls'' := [some (pw_i b)]) (Nat.le_trans (by decide) hd) E rfl (fun _ => pw_iS rfl rfl rfl) (rfl : pm_ent 125 = some (1, 1, 11, 1, pmc_125)) rfl rfl (cm_125 (pw_dp hd (by decide)) I (b) (by omega) (by omega)) ?_
  rintro u2 v1 ⟨rfl, x3, rfl, hx3a, hx3b, hx3r⟩
  refine ⟨_, rfl, ?_⟩
  show pw X d h 131 4 [some (pw_i b), some (pw_i e)] [pw_i x3] _
  change (x3 = 1 ∧ 0 ≤ b ∧ b ≤ 11) ∨ (x3 = 0 ∧ ¬ (0 ≤ b ∧ b ≤ 11)) at hx3r
  rcases (by omega : x3 = 1 ∨ x3 = 0) with hb4 | hb4
  · skip
    refine pw_if E (pc' := 23) rfl (by decide) (by omega) (by omega) ?_ ?_
    · intro hc5
      change x3 = (0 : Int) at hc5
      exfalso; omega
    · intro hc6
      change ¬ (x3 = (0 : Int)) at hc6
      refine pw_ld E (pc' := 8) (st' := [pw_i e]) rfl (fun _ => rfl) ?_
      refine pw_call (m' := 125) (As := [pw_i e]) (rest := []) (ls'' := [some (pw_i e)]) (Nat.le_trans (by decide) hd) E rfl (fun _ => pw_iS rfl rfl rfl) (rfl : pm_ent 125 = some (1, 1, 11, 1, pmc_125)) rfl rfl (cm_125 (pw_dp hd (by decide)) I (e) (by omega) (by omega)) ?_
      rintro u8 v7 ⟨rfl, x9, rfl, hx9a, hx9b, hx9r⟩
      refine ⟨_, rfl, ?_⟩
      show pw X d h 131 11 [some (pw_i b), some (pw_i e)] [pw_i x9] _
      change (x9 = 1 ∧ 0 ≤ e ∧ e ≤ 11) ∨ (x9 = 0 ∧ ¬ (0 ≤ e ∧ e ≤ 11)) at hx9r
      rcases (by omega : x9 = 1 ∨ x9 = 0) with hb10 | hb10
      · skip
        refine pw_if E (pc' := 23) rfl (by decide) (by omega) (by omega) ?_ ?_
        · intro hc11
          change x9 = (0 : Int) at hc11
          exfalso; omega
        · intro hc12
          change ¬ (x9 = (0 : Int)) at hc12
          refine pw_ld E (pc' := 15) (st' := [pw_i b]) rfl (fun _ => rfl) ?_
          refine pw_ld E (pc' := 16) (st' := [pw_i e, pw_i b]) rfl (fun _ => rfl) ?_
          refine pw_if2 E (pc' := 23) rfl (by decide) (by omega) (by omega) (by omega) (by omega) ?_ ?_
          · intro hc13
            change b = e at hc13
            refine pw_ld E (pc' := 24) (st' := [pw_i 0]) rfl (fun _ => rfl) ?_
            refine pw_zret E rfl (by omega) ?_
            exact ⟨rfl, ⟨_, rfl, by omega, by omega, by omega⟩⟩
          · intro hc14
            change ¬ (b = e) at hc14
            refine pw_ld E (pc' := 20) (st' := [pw_i 1]) rfl (fun _ => rfl) ?_
            refine pw_goto E (pc' := 24) rfl (by decide) ?_
            refine pw_zret E rfl (by omega) ?_
            exact ⟨rfl, ⟨_, rfl, by omega, by omega, by omega⟩⟩
      · skip
        refine pw_if E (pc' := 23) rfl (by decide) (by omega) (by omega) ?_ ?_
        · intro hc16
          change x9 = (0 : Int) at hc16
          refine pw_ld E (pc' := 24) (st' := [pw_i 0]) rfl (fun _ => rfl) ?_
          refine pw_zret E rfl (by omega) ?_
          exact ⟨rfl, ⟨_, rfl, by omega, by omega, by omega⟩⟩
        · intro hc17
          change ¬ (x9 = (0 : Int)) at hc17
          exfalso; omega
  · skip
    refine pw_if E (pc' := 23) rfl (by decide) (by omega) (by omega) ?_ ?_
    · intro hc19
      change x3 = (0 : Int) at hc19
      refine pw_ld E (pc' := 24) (st' := [pw_i 0]) rfl (fun _ => rfl) ?_
      refine pw_zret E rfl (by omega) ?_
      exact ⟨rfl, ⟨_, rfl, by omega, by omega, by omega⟩⟩
    · intro hc20
      change ¬ (x3 = (0 : Int)) at hc20
      exfalso; omega
set_option maxHeartbeats 4000000 in
theorem cm_213_s {X : List (Nat × List Value)} {d : Nat} {h : pm_H} (hd : 3 ≤ d) (I : pw_I h) (b : Int) (hb1 : (-2147483648) ≤ b) (hb2 : b ≤ 2147483647) (e : Int) (he1 : (-2147483648) ≤ e) (he2 : e ≤ 2147483647) : pw X d h 213 0 [some (pw_i b), some (pw_i e)] [] (fun h' v => h = h' ∧ ∃ a : Int, v = .inl (some (pw_i a)) ∧ 0 ≤ a ∧ a ≤ 1 ∧ ((a = 1 ∧ 0 ≤ b ∧ b ≤ 11 ∧ 0 ≤ e ∧ e ≤ 11 ∧ b ≠ e) ∨ (a = 0 ∧ ¬ (0 ≤ b ∧ b ≤ 11 ∧ 0 ≤ e ∧ e ≤ 11 ∧ b ≠ e)))) := by
  have E : pm_ent 213 = some (2, 2, 12, 1, pmc_213) := rfl
  refine pw_ld E (pc' := 1) (st' := [pw_i b]) rfl (fun _ => rfl) ?_
  refine pw_call (m' := 205) (As := [pw_i b]) (rest := []) (ls'' := [some (pw_i b)]) (Nat.le_trans (by decide) hd) E rfl (fun _ => pw_iS rfl rfl rfl) (rfl : pm_ent 205 = some (1, 1, 12, 1, pmc_205)) rfl rfl (cm_205 (pw_dp hd (by decide)) I (b) (by omega) (by omega)) ?_
  rintro u2 v1 ⟨rfl, x3, rfl, hx3a, hx3b, hx3r⟩
  refine ⟨_, rfl, ?_⟩
  show pw X d h 213 4 [some (pw_i b), some (pw_i e)] [pw_i x3] _
  change (x3 = 1 ∧ 0 ≤ b ∧ b ≤ 11) ∨ (x3 = 0 ∧ ¬ (0 ≤ b ∧ b ≤ 11)) at hx3r
  rcases (by omega : x3 = 1 ∨ x3 = 0) with hb4 | hb4
  · skip
    refine pw_if E (pc' := 23) rfl (by decide) (by omega) (by omega) ?_ ?_
    · intro hc5
      change x3 = (0 : Int) at hc5
      exfalso; omega
    · intro hc6
      change ¬ (x3 = (0 : Int)) at hc6
      refine pw_ld E (pc' := 8) (st' := [pw_i e]) rfl (fun _ => rfl) ?_
      refine pw_call (m' := 205) (As := [pw_i e]) (rest := []) (ls'' := [some (pw_i e)]) (Nat.le_trans (by decide) hd) E rfl (fun _ => pw_iS rfl rfl rfl) (rfl : pm_ent 205 = some (1, 1, 12, 1, pmc_205)) rfl rfl (cm_205 (pw_dp hd (by decide)) I (e) (by omega) (by omega)) ?_
      rintro u8 v7 ⟨rfl, x9, rfl, hx9a, hx9b, hx9r⟩
      refine ⟨_, rfl, ?_⟩
      show pw X d h 213 11 [some (pw_i b), some (pw_i e)] [pw_i x9] _
      change (x9 = 1 ∧ 0 ≤ e ∧ e ≤ 11) ∨ (x9 = 0 ∧ ¬ (0 ≤ e ∧ e ≤ 11)) at hx9r
      rcases (by omega : x9 = 1 ∨ x9 = 0) with hb10 | hb10
      · skip
        refine pw_if E (pc' := 23) rfl (by decide) (by omega) (by omega) ?_ ?_
        · intro hc11
          change x9 = (0 : Int) at hc11
          exfalso; omega
        · intro hc12
          change ¬ (x9 = (0 : Int)) at hc12
          refine pw_ld E (pc' := 15) (st' := [pw_i b]) rfl (fun _ => rfl) ?_
          refine pw_ld E (pc' := 16) (st' := [pw_i e, pw_i b]) rfl (fun _ => rfl) ?_
          refine pw_if2 E (pc' := 23) rfl (by decide) (by omega) (by omega) (by omega) (by omega) ?_ ?_
          · intro hc13
            change b = e at hc13
            refine pw_ld E (pc' := 24) (st' := [pw_i 0]) rfl (fun _ => rfl) ?_
            refine pw_zret E rfl (by omega) ?_
            exact ⟨rfl, ⟨_, rfl, by omega, by omega, by omega⟩⟩
          · intro hc14
            change ¬ (b = e) at hc14
            refine pw_ld E (pc' := 20) (st' := [pw_i 1]) rfl (fun _ => rfl) ?_
            refine pw_goto E (pc' := 24) rfl (by decide) ?_
            refine pw_zret E rfl (by omega) ?_
            exact ⟨rfl, ⟨_, rfl, by omega, by omega, by omega⟩⟩
      · skip
        refine pw_if E (pc' := 23) rfl (by decide) (by omega) (by omega) ?_ ?_
        · intro hc16
          change x9 = (0 : Int) at hc16
          refine pw_ld E (pc' := 24) (st' := [pw_i 0]) rfl (fun _ => rfl) ?_
          refine pw_zret E rfl (by omega) ?_
          exact ⟨rfl, ⟨_, rfl, by omega, by omega, by omega⟩⟩
        · intro hc17
          change ¬ (x9 = (0 : Int)) at hc17
          exfalso; omega
  · skip
    refine pw_if E (pc' := 23) rfl (by decide) (by omega) (by omega) ?_ ?_
    · intro hc19
      change x3 = (0 : Int) at hc19
      refine pw_ld E (pc' := 24) (st' := [pw_i 0]) rfl (fun _ => rfl) ?_
      refine pw_zret E rfl (by omega) ?_
      exact ⟨rfl, ⟨_, rfl, by omega, by omega, by omega⟩⟩
    · intro hc20
      change ¬ (x3 = (0 : Int)) at hc20
      exfalso; omega
set_option maxHeartbeats 4000000 in
theorem cm_214_s {X : List (Nat × List Value)} {d : Nat} {h : pm_H} (hd : 1 ≤ d) (I : pw_I h) (k : Int) (hk1 : 0 ≤ k) (hk2 : k ≤ 23) (b : Int) (hb1 : 0 ≤ b) (hb2 : b ≤ 11) (e : Int) (he1 : 0 ≤ e) (he2 : e ≤ 11) : pw X d h 214 0 [some (.ref 141), some (pw_i k), some (pw_i b), some (pw_i e)] [] (fun h' v => h = h' ∧ ∃ a : Int, v = .inl (some (pw_i a)) ∧ 0 ≤ a ∧ a ≤ 1 ∧ ((a = 1 ∧ pw_g h 131 k.toNat ≠ 0 ∧ pw_g h 138 (12 * k + b).toNat ≠ 0 ∧ pw_g h 138 (12 * k + e).toNat ≠ 0) ∨ (a = 0 ∧ ¬ (pw_g h 131 k.toNat ≠ 0 ∧ pw_g h 138 (12 * k + b).toNat ≠ 0 ∧ pw_g h 138 (12 * k + e).toNat ≠ 0)))) := by
  have E : pm_ent 214 = some (4, 4, 12, 1, pmc_214) := rfl
  refine pw_ld E (pc' := 1) (st' := [.ref 141]) rfl (fun _ => rfl) ?_
  refine pw_getR (b := 147) I E (c := 125) (k := 10) (pc' := 4) rfl rfl rfl rfl rfl rfl rfl ?_
  refine pw_ld E (pc' := 5) (st' := [pw_i k, .ref 147]) rfl (fun _ => rfl) ?_
  refine pw_ald2 I E (c := 131) (pc' := 6) rfl rfl rfl (by decide) rfl (by decide) (by omega) (by omega) rfl (fun hf1a hf1b => ?_)
  refine pw_if E (pc' := 41) rfl (by decide) (by omega) (by omega) ?_ ?_
  · intro hc2
    change pw_g h 131 (k.toNat) = (0 : Int) at hc2
    refine pw_ld E (pc' := 42) (st' := [pw_i 0]) rfl (fun _ => rfl) ?_
    refine pw_zret E rfl (by omega) ?_
    exact ⟨rfl, ⟨_, rfl, by omega, by omega, by omega⟩⟩
  · intro hc3
    change ¬ (pw_g h 131 (k.toNat) = (0 : Int)) at hc3
    refine pw_ld E (pc' := 10) (st' := [.ref 141]) rfl (fun _ => rfl) ?_
    refine pw_getR (b := 154) I E (c := 125) (k := 18) (pc' := 13) rfl rfl rfl rfl rfl rfl rfl ?_
    refine pw_bip E (pc' := 15) rfl rfl (by decide) ?_
    refine pw_ld E (pc' := 16) (st' := [pw_i k, pw_i 12, .ref 154]) rfl (fun _ => rfl) ?_
    refine pw_mul E (pc' := 17) rfl rfl ?_
    refine pw_ld E (pc' := 18) (st' := [pw_i b, pw_i (12 * k), .ref 154]) rfl (fun _ => rfl) ?_
    refine pw_add E (pc' := 19) rfl rfl ?_
    refine pw_ald2 I E (c := 138) (pc' := 20) rfl rfl rfl (by decide) rfl (by decide) (by omega) (by omega) rfl (fun hf4a hf4b => ?_)
    refine pw_if E (pc' := 41) rfl (by decide) (by omega) (by omega) ?_ ?_
    · intro hc5
      change pw_g h 138 (((12 * k) + b).toNat) = (0 : Int) at hc5
      refine pw_ld E (pc' := 42) (st' := [pw_i 0]) rfl (fun _ => rfl) ?_
      refine pw_zret E rfl (by omega) ?_
      exact ⟨rfl, ⟨_, rfl, by omega, by omega, by omega⟩⟩
    · intro hc6
      change ¬ (pw_g h 138 (((12 * k) + b).toNat) = (0 : Int)) at hc6
      refine pw_ld E (pc' := 24) (st' := [.ref 141]) rfl (fun _ => rfl) ?_
      refine pw_getR (b := 154) I E (c := 125) (k := 18) (pc' := 27) rfl rfl rfl rfl rfl rfl rfl ?_
      refine pw_bip E (pc' := 29) rfl rfl (by decide) ?_
      refine pw_ld E (pc' := 30) (st' := [pw_i k, pw_i 12, .ref 154]) rfl (fun _ => rfl) ?_
      refine pw_mul E (pc' := 31) rfl rfl ?_
      refine pw_ld E (pc' := 32) (st' := [pw_i e, pw_i (12 * k), .ref 154]) rfl (fun _ => rfl) ?_
      refine pw_add E (pc' := 33) rfl rfl ?_
      refine pw_ald2 I E (c := 138) (pc' := 34) rfl rfl rfl (by decide) rfl (by decide) (by omega) (by omega) rfl (fun hf7a hf7b => ?_)
      refine pw_if E (pc' := 41) rfl (by decide) (by omega) (by omega) ?_ ?_
      · intro hc8
        change pw_g h 138 (((12 * k) + e).toNat) = (0 : Int) at hc8
        refine pw_ld E (pc' := 42) (st' := [pw_i 0]) rfl (fun _ => rfl) ?_
        refine pw_zret E rfl (by omega) ?_
        exact ⟨rfl, ⟨_, rfl, by omega, by omega, by omega⟩⟩
      · intro hc9
        change ¬ (pw_g h 138 (((12 * k) + e).toNat) = (0 : Int)) at hc9
        refine pw_ld E (pc' := 38) (st' := [pw_i 1]) rfl (fun _ => rfl) ?_
        refine pw_goto E (pc' := 42) rfl (by decide) ?_
        refine pw_zret E rfl (by omega) ?_
        exact ⟨rfl, ⟨_, rfl, by omega, by omega, by omega⟩⟩
set_option maxHeartbeats 4000000 in
theorem cm_215_s {X : List (Nat × List Value)} {d : Nat} {h : pm_H} (hd : 3 ≤ d) (I : pw_I h) (k : Int) (hk1 : 0 ≤ k) (hk2 : k ≤ 23) (b : Int) (hb1 : 0 ≤ b) (hb2 : b ≤ 11) (e : Int) (he1 : 0 ≤ e) (he2 : e ≤ 11) : pw X d h 215 0 [some (.ref 141), some (pw_i k), some (pw_i b), some (pw_i e)] [] (fun h' v => h = h' ∧ ∃ a : Int, v = .inl (some (pw_i a)) ∧ (-2000) ≤ a ∧ a ≤ 2000 ∧ (a = pv_hmk h e k - pv_hmk h b k)) := by
  have E : pm_ent 215 = some (4, 4, 12, 0, pmc_215) := rfl
  refine pw_ld E (pc' := 1) (st' := [.ref 141]) rfl (fun _ => rfl) ?_
  refine pw_ld E (pc' := 2) (st' := [pw_i k, .ref 141]) rfl (fun _ => rfl) ?_
  refine pw_ld E (pc' := 3) (st' := [pw_i e, pw_i k, .ref 141]) rfl (fun _ => rfl) ?_
  obtain ⟨f1l, f1h, -⟩ := pw_obj (c := 125) I rfl
  refine pw_call (m' := 210) (As := [.ref 141, pw_i k, pw_i e]) (rest := []) (ls'' := [some (.ref 141), some (pw_i k), some (pw_i e)]) (Nat.le_trans (by decide) hd) E rfl (fun _ => pw_iV rfl rfl rfl rfl (pw_cellI f1h rfl)) (rfl : pm_ent 210 = some (3, 3, 12, 0, pmc_210)) rfl rfl (cm_210_h (pw_dp hd (by decide)) I (k) (by omega) (by omega) (e) (by omega) (by omega)) ?_
  rintro u3 v2 ⟨rfl, x4, rfl, hx4a, hx4b, hx4r⟩
  refine ⟨_, rfl, ?_⟩
  show pw X d h 215 6 [some (.ref 141), some (pw_i k), some (pw_i b), some (pw_i e)] [pw_i x4] _
  change x4 = 10 * pw_g h 139 (12 * k + e).toNat + pw_g h 125 15 * pw_g h 140 (12 * k + e).toNat at hx4r
  refine pw_ld E (pc' := 7) (st' := [.ref 141, pw_i x4]) rfl (fun _ => rfl) ?_
  refine pw_ld E (pc' := 8) (st' := [pw_i k, .ref 141, pw_i x4]) rfl (fun _ => rfl) ?_
  refine pw_ld E (pc' := 9) (st' := [pw_i b, pw_i k, .ref 141, pw_i x4]) rfl (fun _ => rfl) ?_
  obtain ⟨f5l, f5h, -⟩ := pw_obj (c := 125) I rfl
  refine pw_call (m' := 210) (As := [.ref 141, pw_i k, pw_i b]) (rest := [pw_i x4]) (ls'' := [some (.ref 141), some (pw_i k), some (pw_i b)]) (Nat.le_trans (by decide) hd) E rfl (fun _ => pw_iV rfl rfl rfl rfl (pw_cellI f5h rfl)) (rfl : pm_ent 210 = some (3, 3, 12, 0, pmc_210)) rfl rfl (cm_210_h (pw_dp hd (by decide)) I (k) (by omega) (by omega) (b) (by omega) (by omega)) ?_
  rintro u7 v6 ⟨rfl, x8, rfl, hx8a, hx8b, hx8r⟩
  refine ⟨_, rfl, ?_⟩
  show pw X d h 215 12 [some (.ref 141), some (pw_i k), some (pw_i b), some (pw_i e)] [pw_i x8, pw_i x4] _
  change x8 = 10 * pw_g h 139 (12 * k + b).toNat + pw_g h 125 15 * pw_g h 140 (12 * k + b).toNat at hx8r
  refine pw_sub E (pc' := 13) rfl rfl ?_
  refine pw_iret E rfl ?_
  exact ⟨rfl, ⟨_, rfl, by omega, by omega, by rw [hx4r, hx8r]; rfl⟩⟩
set_option maxHeartbeats 4000000 in
theorem cm_219_s {X : List (Nat × List Value)} {d : Nat} {h : pm_H} (hd : 1 ≤ d) (I : pw_I h)  : pw X d h 219 0 [some (.ref 141)] [] (fun h' v => pw_I h' ∧ pw_E [125] h h' ∧ (pw_gm h' 125 26 = 0 ∧ pw_gm h' 125 27 = 0 ∧ pw_gm h' 125 28 = 0 ∧ pw_gm h' 125 29 = 0) ∧ (v = .inl none)) := by
  have E : pm_ent 219 = some (1, 1, 12, 4, pmc_219) := rfl
  have E0 : pw_E [125] h h := pw_E.rf _ _
  refine pw_ld E (pc' := 1) (st' := [.ref 141]) rfl (fun _ => rfl) ?_
  refine pw_ld E (pc' := 2) (st' := [.long (Int64.ofInt 0), .ref 141]) rfl (fun _ => rfl) ?_
  refine pw_putL I E (c := 125) (k := 26) (pc' := 5) rfl rfl rfl rfl rfl rfl ?_
  intro h1I h1E
  generalize h1w : pw_w h 125 26 (.long (Int64.ofInt 0)) = h1 at h1I h1E ⊢
  have h1F := E0.tr (h1E.wk (W' := [125]) (by first | rfl | simp))
  refine pw_ld E (pc' := 6) (st' := [.ref 141]) rfl (fun _ => rfl) ?_
  refine pw_ld E (pc' := 7) (st' := [.long (Int64.ofInt 0), .ref 141]) rfl (fun _ => rfl) ?_
  refine pw_putM h1I E (c := 125) (k := 27) (pc' := 10) rfl rfl rfl rfl (by omega) (by omega) (by omega) (by omega) rfl rfl ?_
  intro h2I h2E
  generalize h2w : pw_w h1 125 27 (.long (Int64.ofInt 0)) = h2 at h2I h2E ⊢
  have h2F := h1F.tr (h2E.wk (W' := [125]) (by first | rfl | simp))
  refine pw_ld E (pc' := 11) (st' := [.ref 141]) rfl (fun _ => rfl) ?_
  refine pw_ld E (pc' := 12) (st' := [.long (Int64.ofInt 0), .ref 141]) rfl (fun _ => rfl) ?_
  refine pw_putL h2I E (c := 125) (k := 28) (pc' := 15) rfl rfl rfl rfl rfl rfl ?_
  intro h3I h3E
  generalize h3w : pw_w h2 125 28 (.long (Int64.ofInt 0)) = h3 at h3I h3E ⊢
  have h3F := h2F.tr (h3E.wk (W' := [125]) (by first | rfl | simp))
  refine pw_ld E (pc' := 16) (st' := [.ref 141]) rfl (fun _ => rfl) ?_
  refine pw_ld E (pc' := 17) (st' := [.long (Int64.ofInt 0), .ref 141]) rfl (fun _ => rfl) ?_
  refine pw_putM h3I E (c := 125) (k := 29) (pc' := 20) rfl rfl rfl rfl (by omega) (by omega) (by omega) (by omega) rfl rfl ?_
  intro h4I h4E
  generalize h4w : pw_w h3 125 29 (.long (Int64.ofInt 0)) = h4 at h4I h4E ⊢
  have h4F := h3F.tr (h4E.wk (W' := [125]) (by first | rfl | simp))
  have he5 : pw_gm h4 125 26 = pw_gm h3 125 26 := by rw [← h4w]; exact pw_gm_ne (by omega)
  have he6 : pw_gm h3 125 26 = pw_gm h2 125 26 := by rw [← h3w]; exact pw_gm_ne (by omega)
  have he7 : pw_gm h2 125 26 = pw_gm h1 125 26 := by rw [← h2w]; exact pw_gm_ne (by omega)
  have he8 : pw_gm h1 125 26 = 0 := by rw [← h1w]; exact pw_gm_eq (c := 125) (k := 26) I rfl rfl (by omega) (by omega)
  have he9 : pw_gm h4 125 27 = pw_gm h3 125 27 := by rw [← h4w]; exact pw_gm_ne (by omega)
  have he10 : pw_gm h3 125 27 = pw_gm h2 125 27 := by rw [← h3w]; exact pw_gm_ne (by omega)
  have he11 : pw_gm h2 125 27 = 0 := by rw [← h2w]; exact pw_gm_eq (c := 125) (k := 27) h1I rfl rfl (by omega) (by omega)
  have he12 : pw_gm h4 125 28 = pw_gm h3 125 28 := by rw [← h4w]; exact pw_gm_ne (by omega)
  have he13 : pw_gm h3 125 28 = 0 := by rw [← h3w]; exact pw_gm_eq (c := 125) (k := 28) h2I rfl rfl (by omega) (by omega)
  have he14 : pw_gm h4 125 29 = 0 := by rw [← h4w]; exact pw_gm_eq (c := 125) (k := 29) h3I rfl rfl (by omega) (by omega)
  refine pw_vret E rfl ?_
  exact ⟨h4I, h4F, ⟨by omega, rfl⟩⟩
set_option maxHeartbeats 4000000 in
theorem cm_220_s {X : List (Nat × List Value)} {d : Nat} {h : pm_H} (hd : 1 ≤ d) (I : pw_I h) (z : Int) (hz1 : 0 ≤ z) (hz2 : z ≤ 1) (ch : Int) (hch1 : (-2000) ≤ ch) (hch2 : ch ≤ 2000) (hp0 : pw_gm h 125 27 + pw_gm h 125 29 ≤ 23) (hp1 : 0 ≤ pw_gm h 125 27) (hp2 : 0 ≤ pw_gm h 125 29) (hp3 : (-48000) ≤ pw_gm h 125 26) (hp4 : pw_gm h 125 26 ≤ 48000) (hp5 : (-48000) ≤ pw_gm h 125 28) (hp6 : pw_gm h 125 28 ≤ 48000) : pw X d h 220 0 [some (.ref 141), some (pw_i z), some (.long (Int64.ofInt ch)), none] [] (fun h' v => pw_I h' ∧ pw_E [125] h h' ∧ ((z = 1 → pw_gm h' 125 26 = pw_gm h 125 26 + ch ∧ pw_gm h' 125 27 = pw_gm h 125 27 + 1 ∧ pw_gm h' 125 28 = pw_gm h 125 28 ∧ pw_gm h' 125 29 = pw_gm h 125 29) ∧ (z = 0 → pw_gm h' 125 26 = pw_gm h 125 26 ∧ pw_gm h' 125 27 = pw_gm h 125 27 ∧ pw_gm h' 125 28 = pw_gm h 125 28 + ch ∧ pw_gm h' 125 29 = pw_gm h 125 29 + 1)) ∧ (v = .inl none)) := by
  have E : pm_ent 220 = some (3, 4, 12, 4, pmc_220) := rfl
  have E0 : pw_E [125] h h := pw_E.rf _ _
  refine pw_ld E (pc' := 1) (st' := [.ref 141]) rfl (fun _ => rfl) ?_
  refine pw_ld E (pc' := 2) (st' := [.ref 141, .ref 141]) rfl (fun _ => rfl) ?_
  refine pw_getLM I E (c := 125) (k := 26) (pc' := 5) rfl rfl rfl rfl rfl rfl ?_
  refine pw_ld E (pc' := 6) (st' := [pw_i z, .long (Int64.ofInt (pw_gm h 125 26)), .ref 141]) rfl (fun _ => rfl) ?_
  refine pw_if E (pc' := 13) rfl (by decide) (by omega) (by omega) ?_ ?_
  · intro hc1
    change z = (0 : Int) at hc1
    refine pw_ld E (pc' := 14) (st' := [.long (Int64.ofInt 0), .long (Int64.ofInt (pw_gm h 125 26)), .ref 141]) rfl (fun _ => rfl) ?_
    refine pw_ladd E (pc' := 15) rfl rfl ?_
    refine pw_putL I E (c := 125) (k := 26) (pc' := 18) rfl rfl rfl rfl rfl rfl ?_
    intro h2I h2E
    generalize h2w : pw_w h 125 26 (.long (Int64.ofInt ((pw_gm h 125 26) + 0))) = h2 at h2I h2E ⊢
    have h2F := E0.tr (h2E.wk (W' := [125]) (by first | rfl | simp))
    refine pw_ld E (pc' := 19) (st' := [.ref 141]) rfl (fun _ => rfl) ?_
    refine pw_ld E (pc' := 20) (st' := [.ref 141, .ref 141]) rfl (fun _ => rfl) ?_
    have he4 : pw_gm h2 125 27 = pw_gm h 125 27 := by rw [← h2w]; exact pw_gm_ne (by omega)
    refine pw_getM h2I E (c := 125) (k := 27) (pc' := 23) rfl rfl rfl rfl rfl rfl (fun hf3a hf3b => ?_)
    refine pw_ld E (pc' := 24) (st' := [pw_i z, .long (Int64.ofInt (pw_gm h2 125 27)), .ref 141]) rfl (fun _ => rfl) ?_
    refine pw_if E (pc' := 31) rfl (by decide) (by omega) (by omega) ?_ ?_
    · intro hc5
      change z = (0 : Int) at hc5
      refine pw_ld E (pc' := 32) (st' := [.long (Int64.ofInt 0), .long (Int64.ofInt (pw_gm h2 125 27)), .ref 141]) rfl (fun _ => rfl) ?_
      refine pw_ladd E (pc' := 33) rfl rfl ?_
      refine pw_putM h2I E (c := 125) (k := 27) (pc' := 36) rfl rfl rfl rfl (by omega) (by omega) (by omega) (by omega) rfl rfl ?_
      intro h6I h6E
      generalize h6w : pw_w h2 125 27 (.long (Int64.ofInt ((pw_gm h2 125 27) + 0))) = h6 at h6I h6E ⊢
      have h6F := h2F.tr (h6E.wk (W' := [125]) (by first | rfl | simp))
      refine pw_ld E (pc' := 37) (st' := [.ref 141]) rfl (fun _ => rfl) ?_
      refine pw_ld E (pc' := 38) (st' := [.ref 141, .ref 141]) rfl (fun _ => rfl) ?_
      have he7 : pw_gm h6 125 28 = pw_gm h2 125 28 := by rw [← h6w]; exact pw_gm_ne (by omega)
      have he8 : pw_gm h2 125 28 = pw_gm h 125 28 := by rw [← h2w]; exact pw_gm_ne (by omega)
      refine pw_getLM h6I E (c := 125) (k := 28) (pc' := 41) rfl rfl rfl rfl rfl rfl ?_
      refine pw_ld E (pc' := 42) (st' := [pw_i z, .long (Int64.ofInt (pw_gm h6 125 28)), .ref 141]) rfl (fun _ => rfl) ?_
      refine pw_if E (pc' := 49) rfl (by decide) (by omega) (by omega) ?_ ?_
      · intro hc9
        change z = (0 : Int) at hc9
        refine pw_ld E (pc' := 50) (st' := [.long (Int64.ofInt ch), .long (Int64.ofInt (pw_gm h6 125 28)), .ref 141]) rfl (fun _ => rfl) ?_
        refine pw_ladd E (pc' := 51) rfl rfl ?_
        refine pw_putL h6I E (c := 125) (k := 28) (pc' := 54) rfl rfl rfl rfl rfl rfl ?_
        intro h10I h10E
        generalize h10w : pw_w h6 125 28 (.long (Int64.ofInt ((pw_gm h6 125 28) + ch))) = h10 at h10I h10E ⊢
        have h10F := h6F.tr (h10E.wk (W' := [125]) (by first | rfl | simp))
        refine pw_ld E (pc' := 55) (st' := [.ref 141]) rfl (fun _ => rfl) ?_
        refine pw_ld E (pc' := 56) (st' := [.ref 141, .ref 141]) rfl (fun _ => rfl) ?_
        have he12 : pw_gm h10 125 29 = pw_gm h6 125 29 := by rw [← h10w]; exact pw_gm_ne (by omega)
        have he13 : pw_gm h6 125 29 = pw_gm h2 125 29 := by rw [← h6w]; exact pw_gm_ne (by omega)
        have he14 : pw_gm h2 125 29 = pw_gm h 125 29 := by rw [← h2w]; exact pw_gm_ne (by omega)
        refine pw_getM h10I E (c := 125) (k := 29) (pc' := 59) rfl rfl rfl rfl rfl rfl (fun hf11a hf11b => ?_)
        refine pw_ld E (pc' := 60) (st' := [pw_i z, .long (Int64.ofInt (pw_gm h10 125 29)), .ref 141]) rfl (fun _ => rfl) ?_
        refine pw_if E (pc' := 67) rfl (by decide) (by omega) (by omega) ?_ ?_
        · intro hc15
          change z = (0 : Int) at hc15
          refine pw_ld E (pc' := 68) (st' := [.long (Int64.ofInt 1), .long (Int64.ofInt (pw_gm h10 125 29)), .ref 141]) rfl (fun _ => rfl) ?_
          refine pw_ladd E (pc' := 69) rfl rfl ?_
          refine pw_putM h10I E (c := 125) (k := 29) (pc' := 72) rfl rfl rfl rfl (by omega) (by omega) (by omega) (by omega) rfl rfl ?_
          intro h16I h16E
          generalize h16w : pw_w h10 125 29 (.long (Int64.ofInt ((pw_gm h10 125 29) + 1))) = h16 at h16I h16E ⊢
          have h16F := h10F.tr (h16E.wk (W' := [125]) (by first | rfl | simp))
          have he17 : pw_gm h16 125 26 = pw_gm h10 125 26 := by rw [← h16w]; exact pw_gm_ne (by omega)
          have he18 : pw_gm h10 125 26 = pw_gm h6 125 26 := by rw [← h10w]; exact pw_gm_ne (by omega)
          have he19 : pw_gm h6 125 26 = pw_gm h2 125 26 := by rw [← h6w]; exact pw_gm_ne (by omega)
          have he20 : pw_gm h2 125 26 = (pw_gm h 125 26) + 0 := by rw [← h2w]; exact pw_gm_eq (c := 125) (k := 26) I rfl rfl (by omega) (by omega)
          have he21 : pw_gm h16 125 27 = pw_gm h10 125 27 := by rw [← h16w]; exact pw_gm_ne (by omega)
          have he22 : pw_gm h10 125 27 = pw_gm h6 125 27 := by rw [← h10w]; exact pw_gm_ne (by omega)
          have he23 : pw_gm h6 125 27 = (pw_gm h2 125 27) + 0 := by rw [← h6w]; exact pw_gm_eq (c := 125) (k := 27) h2I rfl rfl (by omega) (by omega)
          have he24 : pw_gm h16 125 28 = pw_gm h10 125 28 := by rw [← h16w]; exact pw_gm_ne (by omega)
          have he25 : pw_gm h10 125 28 = (pw_gm h6 125 28) + ch := by rw [← h10w]; exact pw_gm_eq (c := 125) (k := 28) h6I rfl rfl (by omega) (by omega)
          have he26 : pw_gm h16 125 29 = (pw_gm h10 125 29) + 1 := by rw [← h16w]; exact pw_gm_eq (c := 125) (k := 29) h10I rfl rfl (by omega) (by omega)
          refine pw_vret E rfl ?_
          exact ⟨h16I, h16F, ⟨⟨fun _ => by omega, fun _ => by omega⟩, rfl⟩⟩
        · intro hc27
          change ¬ (z = (0 : Int)) at hc27
          exfalso; omega
      · intro hc28
        change ¬ (z = (0 : Int)) at hc28
        exfalso; omega
    · intro hc29
      change ¬ (z = (0 : Int)) at hc29
      exfalso; omega
  · intro hc30
    change ¬ (z = (0 : Int)) at hc30
    refine pw_ld E (pc' := 10) (st' := [.long (Int64.ofInt ch), .long (Int64.ofInt (pw_gm h 125 26)), .ref 141]) rfl (fun _ => rfl) ?_
    refine pw_goto E (pc' := 14) rfl (by decide) ?_
    refine pw_ladd E (pc' := 15) rfl rfl ?_
    refine pw_putL I E (c := 125) (k := 26) (pc' := 18) rfl rfl rfl rfl rfl rfl ?_
    intro h31I h31E
    generalize h31w : pw_w h 125 26 (.long (Int64.ofInt ((pw_gm h 125 26) + ch))) = h31 at h31I h31E ⊢
    have h31F := E0.tr (h31E.wk (W' := [125]) (by first | rfl | simp))
    refine pw_ld E (pc' := 19) (st' := [.ref 141]) rfl (fun _ => rfl) ?_
    refine pw_ld E (pc' := 20) (st' := [.ref 141, .ref 141]) rfl (fun _ => rfl) ?_
    have he33 : pw_gm h31 125 27 = pw_gm h 125 27 := by rw [← h31w]; exact pw_gm_ne (by omega)
    refine pw_getM h31I E (c := 125) (k := 27) (pc' := 23) rfl rfl rfl rfl rfl rfl (fun hf32a hf32b => ?_)
    refine pw_ld E (pc' := 24) (st' := [pw_i z, .long (Int64.ofInt (pw_gm h31 125 27)), .ref 141]) rfl (fun _ => rfl) ?_
    refine pw_if E (pc' := 31) rfl (by decide) (by omega) (by omega) ?_ ?_
    · intro hc34
      change z = (0 : Int) at hc34
      exfalso; omega
    · intro hc35
      change ¬ (z = (0 : Int)) at hc35
      refine pw_ld E (pc' := 28) (st' := [.long (Int64.ofInt 1), .long (Int64.ofInt (pw_gm h31 125 27)), .ref 141]) rfl (fun _ => rfl) ?_
      refine pw_goto E (pc' := 32) rfl (by decide) ?_
      refine pw_ladd E (pc' := 33) rfl rfl ?_
      refine pw_putM h31I E (c := 125) (k := 27) (pc' := 36) rfl rfl rfl rfl (by omega) (by omega) (by omega) (by omega) rfl rfl ?_
      intro h36I h36E
      generalize h36w : pw_w h31 125 27 (.long (Int64.ofInt ((pw_gm h31 125 27) + 1))) = h36 at h36I h36E ⊢
      have h36F := h31F.tr (h36E.wk (W' := [125]) (by first | rfl | simp))
      refine pw_ld E (pc' := 37) (st' := [.ref 141]) rfl (fun _ => rfl) ?_
      refine pw_ld E (pc' := 38) (st' := [.ref 141, .ref 141]) rfl (fun _ => rfl) ?_
      have he37 : pw_gm h36 125 28 = pw_gm h31 125 28 := by rw [← h36w]; exact pw_gm_ne (by omega)
      have he38 : pw_gm h31 125 28 = pw_gm h 125 28 := by rw [← h31w]; exact pw_gm_ne (by omega)
      refine pw_getLM h36I E (c := 125) (k := 28) (pc' := 41) rfl rfl rfl rfl rfl rfl ?_
      refine pw_ld E (pc' := 42) (st' := [pw_i z, .long (Int64.ofInt (pw_gm h36 125 28)), .ref 141]) rfl (fun _ => rfl) ?_
      refine pw_if E (pc' := 49) rfl (by decide) (by omega) (by omega) ?_ ?_
      · intro hc39
        change z = (0 : Int) at hc39
        exfalso; omega
      · intro hc40
        change ¬ (z = (0 : Int)) at hc40
        refine pw_ld E (pc' := 46) (st' := [.long (Int64.ofInt 0), .long (Int64.ofInt (pw_gm h36 125 28)), .ref 141]) rfl (fun _ => rfl) ?_
        refine pw_goto E (pc' := 50) rfl (by decide) ?_
        refine pw_ladd E (pc' := 51) rfl rfl ?_
        refine pw_putL h36I E (c := 125) (k := 28) (pc' := 54) rfl rfl rfl rfl rfl rfl ?_
        intro h41I h41E
        generalize h41w : pw_w h36 125 28 (.long (Int64.ofInt ((pw_gm h36 125 28) + 0))) = h41 at h41I h41E ⊢
        have h41F := h36F.tr (h41E.wk (W' := [125]) (by first | rfl | simp))
        refine pw_ld E (pc' := 55) (st' := [.ref 141]) rfl (fun _ => rfl) ?_
        refine pw_ld E (pc' := 56) (st' := [.ref 141, .ref 141]) rfl (fun _ => rfl) ?_
        have he43 : pw_gm h41 125 29 = pw_gm h36 125 29 := by rw [← h41w]; exact pw_gm_ne (by omega)
        have he44 : pw_gm h36 125 29 = pw_gm h31 125 29 := by rw [← h36w]; exact pw_gm_ne (by omega)
        have he45 : pw_gm h31 125 29 = pw_gm h 125 29 := by rw [← h31w]; exact pw_gm_ne (by omega)
        refine pw_getM h41I E (c := 125) (k := 29) (pc' := 59) rfl rfl rfl rfl rfl rfl (fun hf42a hf42b => ?_)
        refine pw_ld E (pc' := 60) (st' := [pw_i z, .long (Int64.ofInt (pw_gm h41 125 29)), .ref 141]) rfl (fun _ => rfl) ?_
        refine pw_if E (pc' := 67) rfl (by decide) (by omega) (by omega) ?_ ?_
        · intro hc46
          change z = (0 : Int) at hc46
          exfalso; omega
        · intro hc47
          change ¬ (z = (0 : Int)) at hc47
          refine pw_ld E (pc' := 64) (st' := [.long (Int64.ofInt 0), .long (Int64.ofInt (pw_gm h41 125 29)), .ref 141]) rfl (fun _ => rfl) ?_
          refine pw_goto E (pc' := 68) rfl (by decide) ?_
          refine pw_ladd E (pc' := 69) rfl rfl ?_
          refine pw_putM h41I E (c := 125) (k := 29) (pc' := 72) rfl rfl rfl rfl (by omega) (by omega) (by omega) (by omega) rfl rfl ?_
          intro h48I h48E
          generalize h48w : pw_w h41 125 29 (.long (Int64.ofInt ((pw_gm h41 125 29) + 0))) = h48 at h48I h48E ⊢
          have h48F := h41F.tr (h48E.wk (W' := [125]) (by first | rfl | simp))
          have he49 : pw_gm h48 125 26 = pw_gm h41 125 26 := by rw [← h48w]; exact pw_gm_ne (by omega)
          have he50 : pw_gm h41 125 26 = pw_gm h36 125 26 := by rw [← h41w]; exact pw_gm_ne (by omega)
          have he51 : pw_gm h36 125 26 = pw_gm h31 125 26 := by rw [← h36w]; exact pw_gm_ne (by omega)
          have he52 : pw_gm h31 125 26 = (pw_gm h 125 26) + ch := by rw [← h31w]; exact pw_gm_eq (c := 125) (k := 26) I rfl rfl (by omega) (by omega)
          have he53 : pw_gm h48 125 27 = pw_gm h41 125 27 := by rw [← h48w]; exact pw_gm_ne (by omega)
          have he54 : pw_gm h41 125 27 = pw_gm h36 125 27 := by rw [← h41w]; exact pw_gm_ne (by omega)
          have he55 : pw_gm h36 125 27 = (pw_gm h31 125 27) + 1 := by rw [← h36w]; exact pw_gm_eq (c := 125) (k := 27) h31I rfl rfl (by omega) (by omega)
          have he56 : pw_gm h48 125 28 = pw_gm h41 125 28 := by rw [← h48w]; exact pw_gm_ne (by omega)
          have he57 : pw_gm h41 125 28 = (pw_gm h36 125 28) + 0 := by rw [← h41w]; exact pw_gm_eq (c := 125) (k := 28) h36I rfl rfl (by omega) (by omega)
          have he58 : pw_gm h48 125 29 = (pw_gm h41 125 29) + 0 := by rw [← h48w]; exact pw_gm_eq (c := 125) (k := 29) h41I rfl rfl (by omega) (by omega)
          refine pw_vret E rfl ?_
          exact ⟨h48I, h48F, ⟨⟨fun _ => by omega, fun _ => by omega⟩, rfl⟩⟩
set_option maxHeartbeats 4000000 in
theorem cm_221_s {X : List (Nat × List Value)} {d : Nat} {h : pm_H} (hd : 1 ≤ d) (I : pw_I h) (hp0 : 0 ≤ pw_gm h 125 27) (hp1 : pw_gm h 125 27 ≤ 24) (hp2 : 0 ≤ pw_gm h 125 29) (hp3 : pw_gm h 125 29 ≤ 24) (hp4 : (-48000) ≤ pw_gm h 125 26) (hp5 : pw_gm h 125 26 ≤ 48000) (hp6 : (-48000) ≤ pw_gm h 125 28) (hp7 : pw_gm h 125 28 ≤ 48000) : pw X d h 221 0 [some (.ref 141)] [] (fun h' v => pw_I h' ∧ pw_E [125] h h' ∧ ∃ a : Int, v = .inl (some (pw_i a)) ∧ 0 ≤ a ∧ a ≤ 1 ∧ (((a = 1 ∧ 0 < pw_gm h 125 27 * pw_gm h 125 29) ∨ (a = 0 ∧ pw_gm h 125 27 * pw_gm h 125 29 ≤ 0)) ∧ pw_gm h' 125 24 = pw_gm h 125 26 * pw_gm h 125 29 - pw_gm h 125 28 * pw_gm h 125 27 ∧ pw_gm h' 125 25 = pw_gm h 125 27 * pw_gm h 125 29 ∧ pw_gm h' 125 26 = pw_gm h 125 26 ∧ pw_gm h' 125 27 = pw_gm h 125 27 ∧ pw_gm h' 125 28 = pw_gm h 125 28 ∧ pw_gm h' 125 29 = pw_gm h 125 29)) := by
  have E : pm_ent 221 = some (1, 1, 12, 1, pmc_221) := rfl
  have E0 : pw_E [125] h h := pw_E.rf _ _
  refine pw_ld E (pc' := 1) (st' := [.ref 141]) rfl (fun _ => rfl) ?_
  refine pw_ld E (pc' := 2) (st' := [.ref 141, .ref 141]) rfl (fun _ => rfl) ?_
  refine pw_getLM I E (c := 125) (k := 26) (pc' := 5) rfl rfl rfl rfl rfl rfl ?_
  refine pw_ld E (pc' := 6) (st' := [.ref 141, .long (Int64.ofInt (pw_gm h 125 26)), .ref 141]) rfl (fun _ => rfl) ?_
  refine pw_getM I E (c := 125) (k := 29) (pc' := 9) rfl rfl rfl rfl rfl rfl (fun hf1a hf1b => ?_)
  have hm2 := pw_mulS (a := pw_gm h 125 26) (b := pw_gm h 125 29) (A := 48000) (B := 24) (by omega) (by omega) (by omega) (by omega)
  refine pw_lmul E (pc' := 10) rfl rfl ?_
  refine pw_ld E (pc' := 11) (st' := [.ref 141, .long (Int64.ofInt ((pw_gm h 125 26) * (pw_gm h 125 29))), .ref 141]) rfl (fun _ => rfl) ?_
  refine pw_getLM I E (c := 125) (k := 28) (pc' := 14) rfl rfl rfl rfl rfl rfl ?_
  refine pw_ld E (pc' := 15) (st' := [.ref 141, .long (Int64.ofInt (pw_gm h 125 28)), .long (Int64.ofInt ((pw_gm h 125 26) * (pw_gm h 125 29))), .ref 141]) rfl (fun _ => rfl) ?_
  refine pw_getM I E (c := 125) (k := 27) (pc' := 18) rfl rfl rfl rfl rfl rfl (fun hf3a hf3b => ?_)
  have hm4 := pw_mulS (a := pw_gm h 125 28) (b := pw_gm h 125 27) (A := 48000) (B := 24) (by omega) (by omega) (by omega) (by omega)
  refine pw_lmul E (pc' := 19) rfl rfl ?_
  refine pw_lsub E (pc' := 20) rfl rfl ?_
  refine pw_putL I E (c := 125) (k := 24) (pc' := 23) rfl rfl rfl rfl rfl rfl ?_
  intro h5I h5E
  generalize h5w : pw_w h 125 24 (.long (Int64.ofInt (((pw_gm h 125 26) * (pw_gm h 125 29)) - ((pw_gm h 125 28) * (pw_gm h 125 27))))) = h5 at h5I h5E ⊢
  have h5F := E0.tr (h5E.wk (W' := [125]) (by first | rfl | simp))
  refine pw_ld E (pc' := 24) (st' := [.ref 141]) rfl (fun _ => rfl) ?_
  refine pw_ld E (pc' := 25) (st' := [.ref 141, .ref 141]) rfl (fun _ => rfl) ?_
  have he7 : pw_gm h5 125 27 = pw_gm h 125 27 := by rw [← h5w]; exact pw_gm_ne (by omega)
  refine pw_getM h5I E (c := 125) (k := 27) (pc' := 28) rfl rfl rfl rfl rfl rfl (fun hf6a hf6b => ?_)
  refine pw_ld E (pc' := 29) (st' := [.ref 141, .long (Int64.ofInt (pw_gm h5 125 27)), .ref 141]) rfl (fun _ => rfl) ?_
  have he9 : pw_gm h5 125 29 = pw_gm h 125 29 := by rw [← h5w]; exact pw_gm_ne (by omega)
  refine pw_getM h5I E (c := 125) (k := 29) (pc' := 32) rfl rfl rfl rfl rfl rfl (fun hf8a hf8b => ?_)
  have hm10 := pw_mulB (a := pw_gm h5 125 27) (b := pw_gm h5 125 29) (A := 24) (B := 24) (by omega) (by omega) (by omega) (by omega)
  refine pw_lmul E (pc' := 33) rfl rfl ?_
  have eD : (pw_gm h5 125 27) * (pw_gm h5 125 29) = pw_gm h 125 27 * pw_gm h 125 29 := by rw [show pw_gm h5 125 27 = pw_gm h 125 27 by omega, show pw_gm h5 125 29 = pw_gm h 125 29 by omega]
  refine pw_putM h5I E (c := 125) (k := 25) (pc' := 36) rfl rfl rfl rfl (by omega) (by omega) (by omega) (by omega) rfl rfl ?_
  intro h11I h11E
  generalize h11w : pw_w h5 125 25 (.long (Int64.ofInt ((pw_gm h5 125 27) * (pw_gm h5 125 29)))) = h11 at h11I h11E ⊢
  have h11F := h5F.tr (h11E.wk (W' := [125]) (by first | rfl | simp))
  refine pw_ld E (pc' := 37) (st' := [.ref 141]) rfl (fun _ => rfl) ?_
  have he13 : pw_gm h11 125 25 = (pw_gm h5 125 27) * (pw_gm h5 125 29) := by rw [← h11w]; exact pw_gm_eq (c := 125) (k := 25) h5I rfl rfl (by omega) (by omega)
  refine pw_getM h11I E (c := 125) (k := 25) (pc' := 40) rfl rfl rfl rfl rfl rfl (fun hf12a hf12b => ?_)
  refine pw_ld E (pc' := 41) (st' := [.long (Int64.ofInt 0), .long (Int64.ofInt (pw_gm h11 125 25))]) rfl (fun _ => rfl) ?_
  refine pw_lcmpC E (pc' := 42) rfl rfl (by omega) (by omega) (by omega) (by omega) (fun c14 hc14 => ?_)
  refine pw_if E (pc' := 49) rfl (by decide) (by omega) (by omega) ?_ ?_
  · intro hc15
    change c14 ≤ (0 : Int) at hc15
    refine pw_ld E (pc' := 50) (st' := [pw_i 0]) rfl (fun _ => rfl) ?_
    have he16 : pw_gm h11 125 24 = pw_gm h5 125 24 := by rw [← h11w]; exact pw_gm_ne (by omega)
    have he17 : pw_gm h5 125 24 = ((pw_gm h 125 26) * (pw_gm h 125 29)) - ((pw_gm h 125 28) * (pw_gm h 125 27)) := by rw [← h5w]; exact pw_gm_eq (c := 125) (k := 24) I rfl rfl (by omega) (by omega)
    have he18 : pw_gm h11 125 26 = pw_gm h5 125 26 := by rw [← h11w]; exact pw_gm_ne (by omega)
    have he19 : pw_gm h5 125 26 = pw_gm h 125 26 := by rw [← h5w]; exact pw_gm_ne (by omega)
    have he20 : pw_gm h11 125 27 = pw_gm h5 125 27 := by rw [← h11w]; exact pw_gm_ne (by omega)
    have he21 : pw_gm h11 125 28 = pw_gm h5 125 28 := by rw [← h11w]; exact pw_gm_ne (by omega)
    have he22 : pw_gm h5 125 28 = pw_gm h 125 28 := by rw [← h5w]; exact pw_gm_ne (by omega)
    have he23 : pw_gm h11 125 29 = pw_gm h5 125 29 := by rw [← h11w]; exact pw_gm_ne (by omega)
    refine pw_zret E rfl (by omega) ?_
    exact ⟨h11I, h11F, ⟨_, rfl, by omega, by omega, by omega, by omega, by omega, by omega, by omega, by omega, by omega⟩⟩
  · intro hc24
    change ¬ (c14 ≤ (0 : Int)) at hc24
    refine pw_ld E (pc' := 46) (st' := [pw_i 1]) rfl (fun _ => rfl) ?_
    refine pw_goto E (pc' := 50) rfl (by decide) ?_
    have he25 : pw_gm h11 125 24 = pw_gm h5 125 24 := by rw [← h11w]; exact pw_gm_ne (by omega)
    have he26 : pw_gm h5 125 24 = ((pw_gm h 125 26) * (pw_gm h 125 29)) - ((pw_gm h 125 28) * (pw_gm h 125 27)) := by rw [← h5w]; exact pw_gm_eq (c := 125) (k := 24) I rfl rfl (by omega) (by omega)
    have he27 : pw_gm h11 125 26 = pw_gm h5 125 26 := by rw [← h11w]; exact pw_gm_ne (by omega)
    have he28 : pw_gm h5 125 26 = pw_gm h 125 26 := by rw [← h5w]; exact pw_gm_ne (by omega)
    have he29 : pw_gm h11 125 27 = pw_gm h5 125 27 := by rw [← h11w]; exact pw_gm_ne (by omega)
    have he30 : pw_gm h11 125 28 = pw_gm h5 125 28 := by rw [← h11w]; exact pw_gm_ne (by omega)
    have he31 : pw_gm h5 125 28 = pw_gm h 125 28 := by rw [← h5w]; exact pw_gm_ne (by omega)
    have he32 : pw_gm h11 125 29 = pw_gm h5 125 29 := by rw [← h11w]; exact pw_gm_ne (by omega)
    refine pw_zret E rfl (by omega) ?_
    exact ⟨h11I, h11F, ⟨_, rfl, by omega, by omega, by omega, by omega, by omega, by omega, by omega, by omega, by omega⟩⟩
set_option maxHeartbeats 4000000 in
theorem cm_218_s {X : List (Nat × List Value)} {d : Nat} {h : pm_H} (hd : 4 ≤ d) (I : pw_I h) (b : Int) (hb1 : 0 ≤ b) (hb2 : b ≤ 11) (e : Int) (he1 : 0 ≤ e) (he2 : e ≤ 11) (wo : Int) (hwo1 : (-2147483648) ≤ wo) (hwo2 : wo ≤ 2147483647) : pw X d h 218 0 [some (.ref 141), some (pw_i b), some (pw_i e), some (pw_i wo), none] [] (fun h' v => pw_I h' ∧ pw_E [125] h h' ∧ ∃ a : Int, v = .inl (some (pw_i a)) ∧ 0 ≤ a ∧ a ≤ 1 ∧ (((a = 1 ∧ pv_OK (pv_lo (pv_sdm h b e) wo)) ∨ (a = 0 ∧ ¬ pv_OK (pv_lo (pv_sdm h b e) wo))) ∧ pw_gm h' 125 24 = pv_U (pv_lo (pv_sdm h b e) wo) (pv_chm h b e) ∧ pw_gm h' 125 25 = pv_D (pv_lo (pv_sdm h b e) wo) ∧ pw_gm h' 125 26 = pv_S (pv_lo (pv_sdm h b e) wo) (pv_chm h b e) 0 24 ∧ pw_gm h' 125 27 = pv_N (pv_lo (pv_sdm h b e) wo) 0 24 ∧ pw_gm h' 125 28 = pv_S (pv_lo (pv_sdm h b e) wo) (pv_chm h b e) 1 24 ∧ pw_gm h' 125 29 = pv_N (pv_lo (pv_sdm h b e) wo) 1 24)) := by
  have E : pm_ent 218 = some (4, 5, 12, 1, pmc_218) := rfl
  have E0 : pw_E [125] h h := pw_E.rf _ _
  refine pw_ld E (pc' := 1) (st' := [.ref 141]) rfl (fun _ => rfl) ?_
  obtain ⟨f1l, f1h, -⟩ := pw_obj (c := 125) I rfl
  refine pw_call (m' := 219) (As := [.ref 141]) (rest := []) (ls'' := [some (.ref 141)]) (Nat.le_trans (by decide) hd) E rfl (fun _ => pw_iV rfl rfl rfl rfl (pw_cellI f1h rfl)) (rfl : pm_ent 219 = some (1, 1, 12, 4, pmc_219)) rfl rfl (cm_219_s (pw_dp hd (by decide)) I ) ?_
  rintro h2 v3 ⟨h2I, h2E, hqbeg, rfl⟩
  refine ⟨_, rfl, ?_⟩
  have h2F := E0.tr (h2E.wk (W' := [125]) (by first | rfl | simp))
  show pw X d h2 218 4 [some (.ref 141), some (pw_i b), some (pw_i e), some (pw_i wo), none] [] _
  refine pw_ld E (pc' := 5) (st' := [pw_i 0]) rfl (fun _ => rfl) ?_
  refine pw_ist E (pc' := 7) (ls' := [some (.ref 141), some (pw_i b), some (pw_i e), some (pw_i wo), some (pw_i 0)]) rfl rfl rfl rfl ?_
  have L7 : ∀ (n7 : Nat) (k7_4 : Int) (gh7 : pm_H), pw_I gh7 → pw_E [125] h gh7 → 0 ≤ k7_4 → k7_4 ≤ 24 → pw_gm gh7 125 26 = pv_S (pv_lo (pv_sdm h b e) wo) (pv_chm h b e) 0 (k7_4).toNat → pw_gm gh7 125 27 = pv_N (pv_lo (pv_sdm h b e) wo) 0 (k7_4).toNat → pw_gm gh7 125 28 = pv_S (pv_lo (pv_sdm h b e) wo) (pv_chm h b e) 1 (k7_4).toNat → pw_gm gh7 125 29 = pv_N (pv_lo (pv_sdm h b e) wo) 1 (k7_4).toNat → pw_gm gh7 125 27 + pw_gm gh7 125 29 ≤ k7_4 → 0 ≤ pw_gm gh7 125 27 → 0 ≤ pw_gm gh7 125 29 → (-2000) * k7_4 ≤ pw_gm gh7 125 26 → pw_gm gh7 125 26 ≤ 2000 * k7_4 → (-2000) * k7_4 ≤ pw_gm gh7 125 28 → pw_gm gh7 125 28 ≤ 2000 * k7_4 → (24 - k7_4).toNat = n7 → pw X d gh7 218 7 [some (.ref 141), some (pw_i b), some (pw_i e), some (pw_i wo), some (pw_i k7_4)] [] (fun h' v => pw_I h' ∧ pw_E [125] h h' ∧ ∃ a : Int, v = .inl (some (pw_i a)) ∧ 0 ≤ a ∧ a ≤ 1 ∧ (((a = 1 ∧ pv_OK (pv_lo (pv_sdm h b e) wo)) ∨ (a = 0 ∧ ¬ pv_OK (pv_lo (pv_sdm h b e) wo))) ∧ pw_gm h' 125 24 = pv_U (pv_lo (pv_sdm h b e) wo) (pv_chm h b e) ∧ pw_gm h' 125 25 = pv_D (pv_lo (pv_sdm h b e) wo) ∧ pw_gm h' 125 26 = pv_S (pv_lo (pv_sdm h b e) wo) (pv_chm h b e) 0 24 ∧ pw_gm h' 125 27 = pv_N (pv_lo (pv_sdm h b e) wo) 0 24 ∧ pw_gm h' 125 28 = pv_S (pv_lo (pv_sdm h b e) wo) (pv_chm h b e) 1 24 ∧ pw_gm h' 125 29 = pv_N (pv_lo (pv_sdm h b e) wo) 1 24)) := by
    intro n7
    induction n7 using Nat.strongRecOn with
    | ind n7 ih7 =>
      intro k7_4 gh7 I7 E7 k7_4a k7_4b hx7_0 hx7_1 hx7_2 hx7_3 hx7_4 hx7_5 hx7_6 hx7_7 hx7_8 hx7_9 hx7_10 hm7
      refine pw_ld E (pc' := 9) (st' := [pw_i k7_4]) rfl (fun _ => rfl) ?_
      refine pw_bip E (pc' := 11) rfl rfl (by decide) ?_
      refine pw_if2 E (pc' := 65) rfl (by decide) (by omega) (by omega) (by decide) (by decide) ?_ ?_
      · intro hc4
        change (24 : Int) ≤ k7_4 at hc4
        rw [show (k7_4).toNat = 24 by omega] at hx7_0 hx7_1 hx7_2 hx7_3
        refine pw_ld E (pc' := 66) (st' := [.ref 141]) rfl (fun _ => rfl) ?_
        obtain ⟨f5l, f5h, -⟩ := pw_obj (c := 125) I7 rfl
        refine pw_call (m' := 221) (As := [.ref 141]) (rest := []) (ls'' := [some (.ref 141)]) (Nat.le_trans (by decide) hd) E rfl (fun _ => pw_iV rfl rfl rfl rfl (pw_cellI f5h rfl)) (rfl : pm_ent 221 = some (1, 1, 12, 1, pmc_221)) rfl rfl (cm_221_s (pw_dp hd (by decide)) I7 (by omega) (by omega) (by omega) (by omega) (by omega) (by omega) (by omega) (by omega)) ?_
        rintro h6 v7 ⟨h6I, h6E, x8, rfl, hx8a, hx8b, hx8r⟩
        refine ⟨_, rfl, ?_⟩
        have h6F := E7.tr (h6E.wk (W' := [125]) (by first | rfl | simp))
        show pw X d h6 218 69 [some (.ref 141), some (pw_i b), some (pw_i e), some (pw_i wo), some (pw_i k7_4)] [pw_i x8] _
        change ((x8 = 1 ∧ 0 < pw_gm gh7 125 27 * pw_gm gh7 125 29) ∨ (x8 = 0 ∧ pw_gm gh7 125 27 * pw_gm gh7 125 29 ≤ 0)) ∧ pw_gm h6 125 24 = pw_gm gh7 125 26 * pw_gm gh7 125 29 - pw_gm gh7 125 28 * pw_gm gh7 125 27 ∧ pw_gm h6 125 25 = pw_gm gh7 125 27 * pw_gm gh7 125 29 ∧ pw_gm h6 125 26 = pw_gm gh7 125 26 ∧ pw_gm h6 125 27 = pw_gm gh7 125 27 ∧ pw_gm h6 125 28 = pw_gm gh7 125 28 ∧ pw_gm h6 125 29 = pw_gm gh7 125 29 at hx8r
        refine pw_zret E rfl (by omega) ?_
        rw [hx7_0, hx7_1, hx7_2, hx7_3] at hx8r
        obtain ⟨r1, r2, r3, r4, r5, r6, r7⟩ := hx8r
        exact ⟨h6I, h6F, ⟨_, rfl, by omega, by omega, pv_okD (pv_NB 24).1 (pv_NB 24).1 r1, r2, r3, r4, r5, r6, r7⟩⟩
      · intro hc9
        change ¬ ((24 : Int) ≤ k7_4) at hc9
        have oo := pv_loI (sd := pv_sdm h b e) (wo := wo) (k := k7_4) (by omega)
        have od := pv_sdmI (h := h) (b := b) (e := e) (k := k7_4) (by omega)
        have q1 : pw_g gh7 131 (k7_4).toNat = pw_g h 131 (k7_4).toNat := pw_Eg (c := 131) I E7 rfl rfl _
        have qb : pw_g gh7 138 (12 * k7_4 + b).toNat = pw_g h 138 (12 * k7_4 + b).toNat := pw_Eg (c := 138) I E7 rfl rfl _
        have qe : pw_g gh7 138 (12 * k7_4 + e).toNat = pw_g h 138 (12 * k7_4 + e).toNat := pw_Eg (c := 138) I E7 rfl rfl _
        have q4 : pw_g gh7 132 (k7_4).toNat = pw_g h 132 (k7_4).toNat := pw_Eg (c := 132) I E7 rfl rfl _
        have q15 : pw_g gh7 125 15 = pw_g h 125 15 := pw_Ef E7 (Or.inr (Or.inl rfl)) rfl
        have hkb : pv_hmk gh7 b (k7_4) = pv_hmk h b (k7_4) := by unfold pv_hmk; rw [q15, pw_Eg (c := 139) I E7 rfl rfl, pw_Eg (c := 140) I E7 rfl rfl]
        have hke : pv_hmk gh7 e (k7_4) = pv_hmk h e (k7_4) := by unfold pv_hmk; rw [q15, pw_Eg (c := 139) I E7 rfl rfl, pw_Eg (c := 140) I E7 rfl rfl]
        have hw4 := pw_gA (c := 132) (j := k7_4) I7 rfl (by decide) (by omega) (by omega)
        refine pw_ld E (pc' := 16) (st' := [pw_i k7_4]) rfl (fun _ => rfl) ?_
        refine pw_ld E (pc' := 17) (st' := [pw_i wo, pw_i k7_4]) rfl (fun _ => rfl) ?_
        refine pw_if2 E (pc' := 59) rfl (by decide) (by omega) (by omega) (by omega) (by omega) ?_ ?_
        · intro hc10
          change k7_4 = wo at hc10
          have hsd : (pv_lo (pv_sdm h b e) wo) (k7_4).toNat = -1 := by omega
          clear oo od
          obtain ⟨e0, e1, e2, e3⟩ := pv_stpm (sd := pv_lo (pv_sdm h b e) wo) (ch := pv_chm h b e) (k := k7_4) (by omega) hsd
          refine pw_inc E (pc' := 62) (ls' := [some (.ref 141), some (pw_i b), some (pw_i e), some (pw_i wo), some (pw_i (k7_4 + 1))]) rfl rfl rfl rfl ?_
          refine pw_goto E (pc' := 7) rfl (by decide) ?_
          exact ih7 _ (by omega) (k7_4 + 1) gh7 I7 E7 (by omega) (by omega) (by omega) (by omega) (by omega) (by omega) (by omega) (by omega) (by omega) (by omega) (by omega) (by omega) (by omega) rfl
        · intro hc11
          change ¬ (k7_4 = wo) at hc11
          refine pw_ld E (pc' := 21) (st' := [.ref 141]) rfl (fun _ => rfl) ?_
          refine pw_ld E (pc' := 23) (st' := [pw_i k7_4, .ref 141]) rfl (fun _ => rfl) ?_
          refine pw_ld E (pc' := 24) (st' := [pw_i b, pw_i k7_4, .ref 141]) rfl (fun _ => rfl) ?_
          refine pw_ld E (pc' := 25) (st' := [pw_i e, pw_i b, pw_i k7_4, .ref 141]) rfl (fun _ => rfl) ?_
          obtain ⟨f12l, f12h, -⟩ := pw_obj (c := 125) I7 rfl
          refine pw_call (m' := 214) (As := [.ref 141, pw_i k7_4, pw_i b, pw_i e]) (rest := []) (ls'' := [some (.ref 141), some (pw_i k7_4), some (pw_i b), some (pw_i e)]) (Nat.le_trans (by decide) hd) E rfl (fun _ => pw_iV rfl rfl rfl rfl (pw_cellI f12h rfl)) (rfl : pm_ent 214 = some (4, 4, 12, 1, pmc_214)) rfl rfl (cm_214_s (pw_dp hd (by decide)) I7 (k7_4) (by omega) (by omega) (b) (by omega) (by omega) (e) (by omega) (by omega)) ?_
          rintro u14 v13 ⟨rfl, x15, rfl, hx15a, hx15b, hx15r⟩
          refine ⟨_, rfl, ?_⟩
          show pw X d gh7 218 28 [some (.ref 141), some (pw_i b), some (pw_i e), some (pw_i wo), some (pw_i k7_4)] [pw_i x15] _
          change (x15 = 1 ∧ pw_g gh7 131 k7_4.toNat ≠ 0 ∧ pw_g gh7 138 (12 * k7_4 + b).toNat ≠ 0 ∧ pw_g gh7 138 (12 * k7_4 + e).toNat ≠ 0) ∨ (x15 = 0 ∧ ¬ (pw_g gh7 131 k7_4.toNat ≠ 0 ∧ pw_g gh7 138 (12 * k7_4 + b).toNat ≠ 0 ∧ pw_g gh7 138 (12 * k7_4 + e).toNat ≠ 0)) at hx15r
          rcases (by omega : x15 = 1 ∨ x15 = 0) with hb16 | hb16
          · skip
            refine pw_if E (pc' := 59) rfl (by decide) (by omega) (by omega) ?_ ?_
            · intro hc17
              change x15 = (0 : Int) at hc17
              exfalso; omega
            · intro hc18
              change ¬ (x15 = (0 : Int)) at hc18
              refine pw_ld E (pc' := 32) (st' := [.ref 141]) rfl (fun _ => rfl) ?_
              refine pw_ld E (pc' := 33) (st' := [.ref 141, .ref 141]) rfl (fun _ => rfl) ?_
              refine pw_getR (b := 148) I7 E (c := 125) (k := 11) (pc' := 36) rfl rfl rfl rfl rfl rfl rfl ?_
              refine pw_ld E (pc' := 38) (st' := [pw_i k7_4, .ref 148, .ref 141]) rfl (fun _ => rfl) ?_
              refine pw_ald2 I7 E (c := 132) (pc' := 39) rfl rfl rfl (by decide) rfl (by decide) (by omega) (by omega) rfl (fun hf19a hf19b => ?_)
              refine pw_if E (pc' := 46) rfl (by decide) (by omega) (by omega) ?_ ?_
              · intro hc20
                change pw_g gh7 132 (k7_4.toNat) ≠ (0 : Int) at hc20
                refine pw_ld E (pc' := 47) (st' := [pw_i 0, .ref 141]) rfl (fun _ => rfl) ?_
                refine pw_ld E (pc' := 48) (st' := [.ref 141, pw_i 0, .ref 141]) rfl (fun _ => rfl) ?_
                refine pw_ld E (pc' := 50) (st' := [pw_i k7_4, .ref 141, pw_i 0, .ref 141]) rfl (fun _ => rfl) ?_
                refine pw_ld E (pc' := 51) (st' := [pw_i b, pw_i k7_4, .ref 141, pw_i 0, .ref 141]) rfl (fun _ => rfl) ?_
                refine pw_ld E (pc' := 52) (st' := [pw_i e, pw_i b, pw_i k7_4, .ref 141, pw_i 0, .ref 141]) rfl (fun _ => rfl) ?_
                obtain ⟨f21l, f21h, -⟩ := pw_obj (c := 125) I7 rfl
                refine pw_call (m' := 215) (As := [.ref 141, pw_i k7_4, pw_i b, pw_i e]) (rest := [pw_i 0, .ref 141]) (ls'' := [some (.ref 141), some (pw_i k7_4), some (pw_i b), some (pw_i e)]) (Nat.le_trans (by decide) hd) E rfl (fun _ => pw_iV rfl rfl rfl rfl (pw_cellI f21h rfl)) (rfl : pm_ent 215 = some (4, 4, 12, 0, pmc_215)) rfl rfl (cm_215_s (pw_dp hd (by decide)) I7 (k7_4) (by omega) (by omega) (b) (by omega) (by omega) (e) (by omega) (by omega)) ?_
                rintro u23 v22 ⟨rfl, x24, rfl, hx24a, hx24b, hx24r⟩
                refine ⟨_, rfl, ?_⟩
                show pw X d gh7 218 55 [some (.ref 141), some (pw_i b), some (pw_i e), some (pw_i wo), some (pw_i k7_4)] [pw_i x24, pw_i 0, .ref 141] _
                change x24 = pv_hmk gh7 e k7_4 - pv_hmk gh7 b k7_4 at hx24r
                refine pw_i2l E (pc' := 56) rfl rfl (by omega) (by omega) ?_
                have hch : pv_chm h b e (k7_4).toNat = x24 := by rw [hx24r, hkb, hke]; exact pv_chmI (by omega)
                have hsd : (pv_lo (pv_sdm h b e) wo) (k7_4).toNat = 1 := by omega
                clear oo od
                obtain ⟨e0, e1, e2, e3⟩ := pv_stp1 (sd := pv_lo (pv_sdm h b e) wo) (ch := pv_chm h b e) (k := k7_4) (by omega) hsd
                rw [hch] at e3
                obtain ⟨f25l, f25h, -⟩ := pw_obj (c := 125) I7 rfl
                refine pw_call (m' := 220) (As := [.ref 141, pw_i 0, .long (Int64.ofInt x24)]) (rest := []) (ls'' := [some (.ref 141), some (pw_i 0), some (.long (Int64.ofInt x24)), none]) (Nat.le_trans (by decide) hd) E rfl (fun _ => pw_iV rfl rfl rfl rfl (pw_cellI f25h rfl)) (rfl : pm_ent 220 = some (3, 4, 12, 4, pmc_220)) rfl rfl (cm_220_s (pw_dp hd (by decide)) I7 (0) (by omega) (by omega) (x24) (by omega) (by omega) (by omega) (by omega) (by omega) (by omega) (by omega) (by omega) (by omega)) ?_
                rintro h26 v27 ⟨h26I, h26E, hqadd, rfl⟩
                refine ⟨_, rfl, ?_⟩
                have h26F := E7.tr (h26E.wk (W' := [125]) (by first | rfl | simp))
                show pw X d h26 218 59 [some (.ref 141), some (pw_i b), some (pw_i e), some (pw_i wo), some (pw_i k7_4)] [] _
                have hqa := hqadd.2 rfl
                clear hqadd
                refine pw_inc E (pc' := 62) (ls' := [some (.ref 141), some (pw_i b), some (pw_i e), some (pw_i wo), some (pw_i (k7_4 + 1))]) rfl rfl rfl rfl ?_
                refine pw_goto E (pc' := 7) rfl (by decide) ?_
                exact ih7 _ (by omega) (k7_4 + 1) h26 h26I h26F (by omega) (by omega) (by omega) (by omega) (by omega) (by omega) (by omega) (by omega) (by omega) (by omega) (by omega) (by omega) (by omega) rfl
              · intro hc28
                change ¬ (pw_g gh7 132 (k7_4.toNat) ≠ (0 : Int)) at hc28
                refine pw_ld E (pc' := 43) (st' := [pw_i 1, .ref 141]) rfl (fun _ => rfl) ?_
                refine pw_goto E (pc' := 47) rfl (by decide) ?_
                refine pw_ld E (pc' := 48) (st' := [.ref 141, pw_i 1, .ref 141]) rfl (fun _ => rfl) ?_
                refine pw_ld E (pc' := 50) (st' := [pw_i k7_4, .ref 141, pw_i 1, .ref 141]) rfl (fun _ => rfl) ?_
                refine pw_ld E (pc' := 51) (st' := [pw_i b, pw_i k7_4, .ref 141, pw_i 1, .ref 141]) rfl (fun _ => rfl) ?_
                refine pw_ld E (pc' := 52) (st' := [pw_i e, pw_i b, pw_i k7_4, .ref 141, pw_i 1, .ref 141]) rfl (fun _ => rfl) ?_
                obtain ⟨f29l, f29h, -⟩ := pw_obj (c := 125) I7 rfl
                refine pw_call (m' := 215) (As := [.ref 141, pw_i k7_4, pw_i b, pw_i e]) (rest := [pw_i 1, .ref 141]) (ls'' := [some (.ref 141), some (pw_i k7_4), some (pw_i b), some (pw_i e)]) (Nat.le_trans (by decide) hd) E rfl (fun _ => pw_iV rfl rfl rfl rfl (pw_cellI f29h rfl)) (rfl : pm_ent 215 = some (4, 4, 12, 0, pmc_215)) rfl rfl (cm_215_s (pw_dp hd (by decide)) I7 (k7_4) (by omega) (by omega) (b) (by omega) (by omega) (e) (by omega) (by omega)) ?_
                rintro u31 v30 ⟨rfl, x32, rfl, hx32a, hx32b, hx32r⟩
                refine ⟨_, rfl, ?_⟩
                show pw X d gh7 218 55 [some (.ref 141), some (pw_i b), some (pw_i e), some (pw_i wo), some (pw_i k7_4)] [pw_i x32, pw_i 1, .ref 141] _
                change x32 = pv_hmk gh7 e k7_4 - pv_hmk gh7 b k7_4 at hx32r
                refine pw_i2l E (pc' := 56) rfl rfl (by omega) (by omega) ?_
                have hch : pv_chm h b e (k7_4).toNat = x32 := by rw [hx32r, hkb, hke]; exact pv_chmI (by omega)
                have hsd : (pv_lo (pv_sdm h b e) wo) (k7_4).toNat = 0 := by omega
                clear oo od
                obtain ⟨e0, e1, e2, e3⟩ := pv_stp0 (sd := pv_lo (pv_sdm h b e) wo) (ch := pv_chm h b e) (k := k7_4) (by omega) hsd
                rw [hch] at e2
                obtain ⟨f33l, f33h, -⟩ := pw_obj (c := 125) I7 rfl
                refine pw_call (m' := 220) (As := [.ref 141, pw_i 1, .long (Int64.ofInt x32)]) (rest := []) (ls'' := [some (.ref 141), some (pw_i 1), some (.long (Int64.ofInt x32)), none]) (Nat.le_trans (by decide) hd) E rfl (fun _ => pw_iV rfl rfl rfl rfl (pw_cellI f33h rfl)) (rfl : pm_ent 220 = some (3, 4, 12, 4, pmc_220)) rfl rfl (cm_220_s (pw_dp hd (by decide)) I7 (1) (by omega) (by omega) (x32) (by omega) (by omega) (by omega) (by omega) (by omega) (by omega) (by omega) (by omega) (by omega)) ?_
                rintro h34 v35 ⟨h34I, h34E, hqadd, rfl⟩
                refine ⟨_, rfl, ?_⟩
                have h34F := E7.tr (h34E.wk (W' := [125]) (by first | rfl | simp))
                show pw X d h34 218 59 [some (.ref 141), some (pw_i b), some (pw_i e), some (pw_i wo), some (pw_i k7_4)] [] _
                have hqa := hqadd.1 rfl
                clear hqadd
                refine pw_inc E (pc' := 62) (ls' := [some (.ref 141), some (pw_i b), some (pw_i e), some (pw_i wo), some (pw_i (k7_4 + 1))]) rfl rfl rfl rfl ?_
                refine pw_goto E (pc' := 7) rfl (by decide) ?_
                exact ih7 _ (by omega) (k7_4 + 1) h34 h34I h34F (by omega) (by omega) (by omega) (by omega) (by omega) (by omega) (by omega) (by omega) (by omega) (by omega) (by omega) (by omega) (by omega) rfl
          · skip
            refine pw_if E (pc' := 59) rfl (by decide) (by omega) (by omega) ?_ ?_
            · intro hc37
              change x15 = (0 : Int) at hc37
              have hsd : (pv_lo (pv_sdm h b e) wo) (k7_4).toNat = -1 := by omega
              clear oo od
              obtain ⟨e0, e1, e2, e3⟩ := pv_stpm (sd := pv_lo (pv_sdm h b e) wo) (ch := pv_chm h b e) (k := k7_4) (by omega) hsd
              refine pw_inc E (pc' := 62) (ls' := [some (.ref 141), some (pw_i b), some (pw_i e), some (pw_i wo), some (pw_i (k7_4 + 1))]) rfl rfl rfl rfl ?_
              refine pw_goto E (pc' := 7) rfl (by decide) ?_
              exact ih7 _ (by omega) (k7_4 + 1) gh7 I7 E7 (by omega) (by omega) (by omega) (by omega) (by omega) (by omega) (by omega) (by omega) (by omega) (by omega) (by omega) (by omega) (by omega) rfl
            · intro hc38
              change ¬ (x15 = (0 : Int)) at hc38
              exfalso; omega
  exact L7 _ (0) h2 h2I h2F (by omega) (by omega) (by show _ = (0 : Int); omega) (by show _ = (0 : Int); omega) (by show _ = (0 : Int); omega) (by show _ = (0 : Int); omega) (by omega) (by omega) (by omega) (by omega) (by omega) (by omega) (by omega) rfl
end
section
/-! river, exactly (printed by wip/tool/mriver.py) -/
/-- what pick says of a fraction laid in lowest terms -/
theorem pv_pick {U D wt x g0 g1 : Int} (e0 : g0 = Int.tdiv U (pw_gd U D)) (e1 : g1 = Int.tdiv D (pw_gd U D)) (r : (wt = 0 → x = g0) ∧ (wt ≠ 0 → x = g1)) : x = pv_LW U D wt := by
  by_cases q : wt = 0
  · rw [pv_LW0 q, r.1 q, e0]
  · rw [pv_LW1 q, r.2 q, e1]
theorem pv_low {U D wt x : Int} (r : (wt = 0 → x = Int.tdiv U (pw_gd U D)) ∧ (wt ≠ 0 → x = Int.tdiv D (pw_gd U D))) : x = pv_LW U D wt := pv_pick rfl rfl r
end
section
/-! bounds: what they are (printed by wip/tool/mbnd.py) -/
theorem pv_hmkE {W : List Nat} {h h' : pm_H} {k mo : Int} (I : pw_I h) (E : pw_E W h h') (hn : (W.contains 1015 || (W.contains 139 || W.contains 140)) = false) : pv_hmk h' mo k = pv_hmk h mo k := by
  obtain ⟨h1, h2⟩ := Bool.or_eq_false_iff.mp hn
  obtain ⟨h2, h3⟩ := Bool.or_eq_false_iff.mp h2
  unfold pv_hmk
  rw [pw_Ef E (Or.inr (Or.inl rfl)) h1, pw_Eg (c := 139) I E rfl h2, pw_Eg (c := 140) I E rfl h3]
/-- which bound is asked for -/
def pv_z (wt : Int) : Int := if 2 ≤ wt then 1 else 0
theorem pv_zI {wt : Int} : (2 ≤ wt → pv_z wt = 1) ∧ (¬ (2 ≤ wt) → pv_z wt = 0) := ⟨fun q => if_pos q, fun q => if_neg q⟩
set_option maxHeartbeats 4000000 in
theorem cm_175_s {X : List (Nat × List Value)} {d : Nat} {h : pm_H} (hd : 1 ≤ d) (I : pw_I h) (n : Int) (hn1 : (-2147483648) ≤ n) (hn2 : n ≤ 2147483647) : pw X d h 175 0 [some (pw_i n)] [] (fun h' v => h = h' ∧ ∃ a : Int, v = .inl (some (pw_i a)) ∧ 0 ≤ a ∧ a ≤ 1 ∧ ((a = 1 ∧ 2 ≤ n) ∨ (a = 0 ∧ ¬ (2 ≤ n)))) := by
  have E : pm_ent 175 = some (1, 1, 11, 1, pmc_175) := rfl
  refine pw_ld E (pc' := 1) (st' := [pw_i n]) rfl (fun _ => rfl) ?_
  refine pw_ld E (pc' := 2) (st' := [pw_i 2, pw_i n]) rfl (fun _ => rfl) ?_
  refine pw_if2 E (pc' := 9) rfl (by decide) (by omega) (by omega) (by decide) (by decide) ?_ ?_
  · intro hc1
    change n < (2 : Int) at hc1
    refine pw_ld E (pc' := 10) (st' := [pw_i 0]) rfl (fun _ => rfl) ?_
    refine pw_zret E rfl (by omega) ?_
    exact ⟨rfl, ⟨_, rfl, by omega, by omega, by omega⟩⟩
  · intro hc2
    change ¬ (n < (2 : Int)) at hc2
    refine pw_ld E (pc' := 6) (st' := [pw_i 1]) rfl (fun _ => rfl) ?_
    refine pw_goto E (pc' := 10) rfl (by decide) ?_
    refine pw_zret E rfl (by omega) ?_
    exact ⟨rfl, ⟨_, rfl, by omega, by omega, by omega⟩⟩
set_option maxHeartbeats 4000000 in
theorem cm_176_s {X : List (Nat × List Value)} {d : Nat} {h : pm_H} (hd : 1 ≤ d) (I : pw_I h) (n : Int) (hn1 : 0 ≤ n) (hn2 : n ≤ 3) : pw X d h 176 0 [some (pw_i n)] [] (fun h' v => h = h' ∧ ∃ a : Int, v = .inl (some (pw_i a)) ∧ 0 ≤ a ∧ a ≤ 1 ∧ (a = n % 2)) := by
  have E : pm_ent 176 = some (1, 1, 11, 0, pmc_176) := rfl
  refine pw_ld E (pc' := 1) (st' := [pw_i n]) rfl (fun _ => rfl) ?_
  refine pw_ld E (pc' := 2) (st' := [pw_i 2, pw_i n]) rfl (fun _ => rfl) ?_
  refine pw_rem E (pc' := 3) rfl rfl (by omega) (by omega) (by decide) (by decide) ?_
  refine pw_iret E rfl ?_
  exact ⟨rfl, ⟨_, rfl, by omega, by omega, by omega⟩⟩
end
section
/-! choosing: sorting, and what it is (printed by wip/tool/mchoo.py) -/
/-- the place at which v goes among the first n of s -/
def pc_ip (s : Nat → Int) (v : Int) : Nat → Nat
  | 0 => 0
  | n + 1 => if v < s n then pc_ip s v n else n + 1
/-- v put among the first n of s -/
def pc_is (s : Nat → Int) (v : Int) (n j : Nat) : Int := if j < pc_ip s v n then s j else if j = pc_ip s v n then v else s (j - 1)
/-- the first n of v, sorted -/
def pc_so (v : Nat → Int) : Nat → Nat → Int
  | 0 => fun _ => 0
  | n + 1 => pc_is (pc_so v n) (v n) n
theorem pc_ipS {s : Nat → Int} {v : Int} {n : Nat} : pc_ip s v (n + 1) = if v < s n then pc_ip s v n else n + 1 := rfl
theorem pc_ipB {s : Nat → Int} {v : Int} : ∀ n : Nat, pc_ip s v n ≤ n ∧ (∀ j : Nat, pc_ip s v n ≤ j → j < n → v < s j) ∧ (0 < pc_ip s v n → s (pc_ip s v n - 1) ≤ v) := by
  intro n
  induction n with
  | zero => exact ⟨Nat.le_refl _, fun j _ h => absurd h (Nat.not_lt_zero j), fun h => absurd h (Nat.lt_irrefl 0)⟩
  | succ n ih =>
    obtain ⟨i1, i2, i3⟩ := ih
    rw [pc_ipS]
    by_cases q : v < s n
    · rw [if_pos q]
      refine ⟨by omega, fun j h1 h2 => ?_, i3⟩
      rcases (by omega : j < n ∨ j = n) with r | r
      · exact i2 j h1 r
      · rw [r]; exact q
    · rw [if_neg q]
      refine ⟨Nat.le_refl _, fun j h1 h2 => by omega, fun _ => ?_⟩
      rw [show n + 1 - 1 = n by omega]
      omega
theorem pc_ipU {s : Nat → Int} {v : Int} {n p : Nat} (hp : p ≤ n) (h1 : ∀ j : Nat, p ≤ j → j < n → v < s j) (h2 : 0 < p → s (p - 1) ≤ v) : pc_ip s v n = p := by
  obtain ⟨i1, i2, i3⟩ := pc_ipB (s := s) (v := v) n
  rcases (by omega : pc_ip s v n < p ∨ p < pc_ip s v n ∨ pc_ip s v n = p) with r | r | r
  · have a := i2 (p - 1) (by omega) (by omega)
    have b := h2 (by omega)
    omega
  · have a := h1 (pc_ip s v n - 1) (by omega) (by omega)
    have b := i3 (by omega)
    omega
  · exact r
theorem pc_isI {s : Nat → Int} {v : Int} {n j : Nat} : (j < pc_ip s v n → pc_is s v n j = s j) ∧ (j = pc_ip s v n → pc_is s v n j = v) ∧ (pc_ip s v n < j → pc_is s v n j = s (j - 1)) := by
  unfold pc_is
  refine ⟨fun q => if_pos q, fun q => ?_, fun q => ?_⟩
  · rw [if_neg (by omega), if_pos q]
  · rw [if_neg (by omega), if_neg (by omega)]
/-- what stands while one is put in: its place may still be p -/
def pc_IN (s g : Nat → Int) (n p v : Int) : Prop := (∀ j : Nat, (j : Int) < p → g j = s j) ∧ (∀ j : Nat, p < (j : Int) → (j : Int) ≤ n → g j = s (j - 1)) ∧ (∀ j : Nat, p ≤ (j : Int) → (j : Int) < n → v < s j)
theorem pc_IN.z {s g : Nat → Int} {n v : Int} (H : ∀ j : Nat, (j : Int) < n → g j = s j) : pc_IN s g n n v := ⟨H, fun j h1 h2 => by omega, fun j h1 h2 => by omega⟩
theorem pc_IN.st {s : Nat → Int} {g g' : pm_H} {c : Nat} {lo hi n p v : Int} (H : pc_IN s (pw_g g c) n p v) (hs : pw_T[c]? = some (.inl (0, 24, lo, hi))) (h0 : 0 < p) (h1 : p ≤ 23) (hn : p ≤ n) (hv : v < pw_g g c (p - 1).toNat) (I : pw_I g) (w : pw_w g c p.toNat (pw_i (pw_g g c (p - 1).toNat)) = g') : pc_IN s (pw_g g' c) n (p + (-1)) v := by
  have r := pw_gA (j := p - 1) I hs (by decide) (by omega) (by omega)
  have e1 : pw_g g' c p.toNat = pw_g g c (p - 1).toNat := by rw [← w]; exact pw_g_eqA I hs (by omega) (by omega) (by omega)
  have n1 : ∀ j : Nat, j ≠ p.toNat → pw_g g' c j = pw_g g c j := fun j hj => by rw [← w]; exact pw_g_ne (fun q => hj q.2.symm)
  have e2 := H.1 (p - 1).toNat (by omega)
  refine ⟨fun j hj => ?_, fun j h2 h3 => ?_, fun j h2 h3 => ?_⟩
  · rw [n1 j (by omega)]; exact H.1 j (by omega)
  · rcases (by omega : j = p.toNat ∨ p < (j : Int)) with q | q
    · rw [q, e1, e2, show p.toNat - 1 = (p - 1).toNat by omega]
    · rw [n1 j (by omega)]; exact H.2.1 j q h3
  · rcases (by omega : j = (p - 1).toNat ∨ p ≤ (j : Int)) with q | q
    · rw [q, ← e2]; exact hv
    · exact H.2.2 j q h3
theorem pc_IN.nd {s : Nat → Int} {g g' : pm_H} {c : Nat} {lo hi n p v : Int} (H : pc_IN s (pw_g g c) n p v) (hs : pw_T[c]? = some (.inl (0, 24, lo, hi))) (h0 : 0 ≤ p) (h1 : p ≤ 23) (hn : p ≤ n) (hv : 0 < p → pw_g g c (p - 1).toNat ≤ v) (v1 : -2147483648 ≤ v) (v2 : v ≤ 2147483647) (I : pw_I g) (w : pw_w g c p.toNat (pw_i v) = g') : ∀ j : Nat, (j : Int) < n + 1 → pw_g g' c j = pc_is s v n.toNat j := by
  have e1 : pw_g g' c p.toNat = v := by rw [← w]; exact pw_g_eqA I hs (by omega) v1 v2
  have n1 : ∀ j : Nat, j ≠ p.toNat → pw_g g' c j = pw_g g c j := fun j hj => by rw [← w]; exact pw_g_ne (fun q => hj q.2.symm)
  have hp : pc_ip s v n.toNat = p.toNat := pc_ipU (by omega) (fun j h2 h3 => H.2.2 j (by omega) (by omega)) (fun h => by
    have e2 := H.1 (p - 1).toNat (by omega)
    rw [show p.toNat - 1 = (p - 1).toNat by omega, ← e2]
    exact hv (by omega))
  intro j hj
  obtain ⟨i1, i2, i3⟩ := pc_isI (s := s) (v := v) (n := n.toNat) (j := j)
  rw [hp] at i1 i2 i3
  rcases (by omega : j < p.toNat ∨ j = p.toNat ∨ p.toNat < j) with q | q | q
  · rw [n1 j (by omega), i1 q]; exact H.1 j (by omega)
  · rw [i2 q, q]; exact e1
  · rw [n1 j (by omega), i3 q]; exact H.2.1 j (by omega) (by omega)
theorem pc_soS {v : Nat → Int} {n : Nat} : pc_so v (n + 1) = pc_is (pc_so v n) (v n) n := rfl
theorem pc_soC {v w : Nat → Int} : ∀ n : Nat, (∀ j : Nat, j < n → v j = w j) → pc_so v n = pc_so w n := by
  intro n
  induction n with
  | zero => intro _; rfl
  | succ n ih =>
    intro H
    rw [pc_soS, pc_soS, ih (fun j hj => H j (by omega)), H n (Nat.lt_succ_self n)]
/-- the row behind i steps of sorting -/
def pc_SI (r g : Nat → Int) (i : Int) : Prop := (∀ j : Nat, (j : Int) < i → g j = pc_so r i.toNat j) ∧ ∀ j : Nat, i ≤ (j : Int) → g j = r j
/-- behind i nothing has changed -/
def pc_TL (r g : Nat → Int) (i : Int) : Prop := ∀ j : Nat, i < (j : Int) → g j = r j
theorem pc_SI.z {r : Nat → Int} : pc_SI r r 1 := by
  refine ⟨fun j hj => ?_, fun j _ => rfl⟩
  rw [show j = 0 by omega]
  exact ((pc_isI (s := pc_so r 0) (v := r 0) (n := 0) (j := 0)).2.1 rfl).symm
theorem pc_TL.up {r : Nat → Int} {g g' : pm_H} {c : Nat} {n p : Int} {x : Value} (H : pc_TL r (pw_g g c) n) (h0 : 0 ≤ p) (hn : p ≤ n) (w : pw_w g c p.toNat x = g') : pc_TL r (pw_g g' c) n := fun j hj => by
  rw [← w, pw_g_ne (fun q => by have := q.2; omega)]
  exact H j hj
theorem pc_SI.st {r : Nat → Int} {g' : Nat → Int} {i v : Int} (h0 : 0 ≤ i) (hv : v = r i.toNat) (H : ∀ j : Nat, (j : Int) < i + 1 → g' j = pc_is (pc_so r i.toNat) v i.toNat j) (t : pc_TL r g' i) : pc_SI r g' (i + 1) := by
  refine ⟨fun j hj => ?_, fun j hj => t j (by omega)⟩
  rw [H j hj, show (i + 1).toNat = i.toNat + 1 by omega, pc_soS, hv]
/-- the changes of a side, in their order -/
def pc_G (sd ch : Nat → Int) (s : Int) : Nat → Nat → Int
  | 0 => fun _ => 0
  | k + 1 => fun j => if sd k = s ∧ (j : Int) = pv_N sd s k then ch k else pc_G sd ch s k j
/-- those of a side, put in one behind another, g times each -/
def pc_F (sd ch : Nat → Int) (s g : Int) : Nat → Nat → Int
  | 0 => fun _ => 0
  | k + 1 => if sd k = s then pc_is (pc_F sd ch s g k) (g * ch k) (pv_N sd s k).toNat else pc_F sd ch s g k
theorem pc_FS {sd ch : Nat → Int} {s g : Int} {k : Nat} : pc_F sd ch s g (k + 1) = if sd k = s then pc_is (pc_F sd ch s g k) (g * ch k) (pv_N sd s k).toNat else pc_F sd ch s g k := rfl
theorem pc_GS {sd ch : Nat → Int} {s : Int} {k j : Nat} : pc_G sd ch s (k + 1) j = if sd k = s ∧ (j : Int) = pv_N sd s k then ch k else pc_G sd ch s k j := rfl
theorem pc_GF {sd ch : Nat → Int} {s : Int} : ∀ k : Nat, pc_so (pc_G sd ch s k) (pv_N sd s k).toNat = pc_F sd ch s 1 k := by
  intro k
  induction k with
  | zero => rfl
  | succ k ih =>
    have nb := pv_NB (sd := sd) (s := s) k
    rw [pc_FS]
    by_cases q : sd k = s
    · have e := (pv_Ns (sd := sd) (s := s) (k := (k : Int)) (by omega)).1 q
      rw [show ((k : Int) + 1).toNat = k + 1 by omega, show ((k : Int)).toNat = k by omega] at e
      rw [if_pos q, e, show (pv_N sd s k + 1).toNat = (pv_N sd s k).toNat + 1 by omega, pc_soS, pc_GS, if_pos ⟨q, by omega⟩, Int.one_mul]
      rw [pc_soC (pv_N sd s k).toNat (fun j hj => by rw [pc_GS, if_neg (fun z => by have := z.2; omega)]), ih]
    · have e := (pv_Ns (sd := sd) (s := s) (k := (k : Int)) (by omega)).2 q
      rw [show ((k : Int) + 1).toNat = k + 1 by omega, show ((k : Int)).toNat = k by omega] at e
      rw [if_neg q, e, pc_soC (pv_N sd s k).toNat (fun j _ => by rw [pc_GS, if_neg (fun z => q z.1)]), ih]
theorem pc_FC {sd sd' ch ch' : Nat → Int} {s g : Int} : ∀ n : Nat, (∀ k : Nat, k < n → sd k = sd' k ∧ (sd k = s → ch k = ch' k)) → pc_F sd ch s g n = pc_F sd' ch' s g n := by
  intro n
  induction n with
  | zero => intro _; rfl
  | succ n ih =>
    intro H
    have h1 := (pv_cg (sd := sd) (sd' := sd') (ch := ch) (ch' := ch') (s := s) n (fun k hk => H k (by omega))).1
    obtain ⟨a, b⟩ := H n (Nat.lt_succ_self n)
    rw [pc_FS, pc_FS, ih (fun k hk => H k (by omega)), h1]
    by_cases q : sd n = s
    · rw [if_pos q, if_pos (by omega), b q]
    · rw [if_neg q, if_neg (by omega)]
theorem pc_isB {s : Nat → Int} {v lo hi : Int} {n : Nat} (H : ∀ j : Nat, j < n → lo ≤ s j ∧ s j ≤ hi) (v1 : lo ≤ v) (v2 : v ≤ hi) : ∀ j : Nat, j < n + 1 → lo ≤ pc_is s v n j ∧ pc_is s v n j ≤ hi := by
  intro j hj
  have b := (pc_ipB (s := s) (v := v) n).1
  obtain ⟨i1, i2, i3⟩ := pc_isI (s := s) (v := v) (n := n) (j := j)
  rcases (by omega : j < pc_ip s v n ∨ j = pc_ip s v n ∨ pc_ip s v n < j) with q | q | q
  · rw [i1 q]; exact H j (by omega)
  · rw [i2 q]; exact ⟨v1, v2⟩
  · rw [i3 q]; exact H (j - 1) (by omega)
theorem pc_FB {sd ch : Nat → Int} {s g : Int} (hg : g = 1 ∨ g = -1) : ∀ n : Nat, (∀ k : Nat, k < n → sd k = s → -2000 ≤ ch k ∧ ch k ≤ 2000) → ∀ j : Nat, (j : Int) < pv_N sd s n → -2000 ≤ pc_F sd ch s g n j ∧ pc_F sd ch s g n j ≤ 2000 := by
  intro n
  induction n with
  | zero =>
    intro _ j hj
    have e : pv_N sd s 0 = 0 := rfl
    omega
  | succ n ih =>
    intro H j hj
    have nb := pv_NB (sd := sd) (s := s) n
    have i := ih (fun k hk => H k (by omega))
    have e : pv_N sd s (n + 1) = pv_N sd s n + (if sd n = s then 1 else 0) := rfl
    rw [pc_FS]
    by_cases q : sd n = s
    · rw [if_pos q] at e ⊢
      have c := H n (Nat.lt_succ_self n) q
      have m : -2000 ≤ g * ch n ∧ g * ch n ≤ 2000 := by
        rcases hg with z | z
        · rw [z, Int.one_mul]; exact c
        · rw [z]; omega
      exact pc_isB (fun j hj => i j (by omega)) m.1 m.2 j (by omega)
    · rw [if_neg q] at e ⊢
      exact i j (by omega)
/-- ascending among the first n -/
def pc_as (s : Nat → Int) (n : Nat) : Prop := ∀ i j : Nat, i ≤ j → j < n → s i ≤ s j
theorem pc_isA {s : Nat → Int} {v : Int} {n : Nat} (H : pc_as s n) : pc_as (pc_is s v n) (n + 1) := by
  obtain ⟨b1, b2, b3⟩ := pc_ipB (s := s) (v := v) n
  have lo : ∀ a : Nat, a < pc_ip s v n → s a ≤ v := fun a ha => by
    have h1 := b3 (by omega)
    have h2 := H a (pc_ip s v n - 1) (by omega) (by omega)
    omega
  intro i j hij hj
  obtain ⟨i1, i2, i3⟩ := pc_isI (s := s) (v := v) (n := n) (j := i)
  obtain ⟨j1, j2, j3⟩ := pc_isI (s := s) (v := v) (n := n) (j := j)
  rcases (by omega : i < pc_ip s v n ∨ i = pc_ip s v n ∨ pc_ip s v n < i) with q | q | q <;> rcases (by omega : j < pc_ip s v n ∨ j = pc_ip s v n ∨ pc_ip s v n < j) with p | p | p
  · rw [i1 q, j1 p]; exact H i j hij (by omega)
  · rw [i1 q, j2 p]; exact lo i q
  · rw [i1 q, j3 p]; exact H i (j - 1) (by omega) (by omega)
  · omega
  · rw [i2 q, j2 p]; exact Int.le_refl _
  · rw [i2 q, j3 p]
    have := b2 (j - 1) (by omega) (by omega)
    omega
  · omega
  · omega
  · rw [i3 q, j3 p]; exact H (i - 1) (j - 1) (by omega) (by omega)
/-- t is s turned over -/
def pc_mi (s t : Nat → Int) (n : Nat) : Prop := ∀ i : Nat, i < n → t i = -s (n - 1 - i)
theorem pc_isM {s t : Nat → Int} {v : Int} {n : Nat} (H : pc_as s n) (M : pc_mi s t n) : pc_mi (pc_is s v n) (pc_is t (-v) n) (n + 1) := by
  obtain ⟨b1, b2, b3⟩ := pc_ipB (s := s) (v := v) n
  obtain ⟨c1, c2, c3⟩ := pc_ipB (s := t) (v := -v) n
  have lo : ∀ a : Nat, a < pc_ip s v n → s a ≤ v := fun a ha => by
    have h1 := b3 (by omega)
    have h2 := H a (pc_ip s v n - 1) (by omega) (by omega)
    omega
  have up : ∀ a : Nat, a < n → n - pc_ip t (-v) n ≤ a → v ≤ s a := fun a h1 h2 => by
    have h3 := c3 (by omega)
    rw [M _ (by omega)] at h3
    have h4 := H (n - 1 - (pc_ip t (-v) n - 1)) a (by omega) h1
    omega
  have dn : ∀ a : Nat, a < n → a < n - pc_ip t (-v) n → s a < v := fun a h1 h2 => by
    have h3 := c2 (n - 1 - a) (by omega) (by omega)
    rw [M _ (by omega), show n - 1 - (n - 1 - a) = a by omega] at h3
    omega
  have hq : n - pc_ip t (-v) n ≤ pc_ip s v n := by
    rcases (by omega : n - pc_ip t (-v) n ≤ pc_ip s v n ∨ pc_ip s v n < n - pc_ip t (-v) n) with r | r
    · exact r
    · have h1 := dn (pc_ip s v n) (by omega) r
      have h2 := b2 (pc_ip s v n) (Nat.le_refl _) (by omega)
      omega
  have eqv : ∀ a : Nat, a < n → n - pc_ip t (-v) n ≤ a → a < pc_ip s v n → s a = v := fun a h1 h2 h3 => by
    have := up a h1 h2
    have := lo a h3
    omega
  intro i hi
  rw [show n + 1 - 1 - i = n - i by omega]
  obtain ⟨i1, i2, i3⟩ := pc_isI (s := t) (v := -v) (n := n) (j := i)
  obtain ⟨j1, j2, j3⟩ := pc_isI (s := s) (v := v) (n := n) (j := n - i)
  rcases (by omega : i < pc_ip t (-v) n ∨ i = pc_ip t (-v) n ∨ pc_ip t (-v) n < i) with q | q | q
  · rw [i1 q, M i (by omega)]
    rcases (by omega : n - i < pc_ip s v n ∨ n - i = pc_ip s v n ∨ pc_ip s v n < n - i) with p | p | p
    · rw [j1 p, eqv (n - i) (by omega) (by omega) p, eqv (n - 1 - i) (by omega) (by omega) (by omega)]
    · rw [j2 p, eqv (n - 1 - i) (by omega) (by omega) (by omega)]
    · rw [j3 p, show n - i - 1 = n - 1 - i by omega]
  · rw [i2 q]
    rcases (by omega : n - i < pc_ip s v n ∨ n - i = pc_ip s v n) with p | p
    · rw [j1 p, eqv (n - i) (by omega) (by omega) p]
    · rw [j2 p]
  · rw [i3 q, M (i - 1) (by omega), j1 (by omega), show n - 1 - (i - 1) = n - i by omega]
theorem pc_FM {sd ch : Nat → Int} {s : Int} : ∀ n : Nat, pc_as (pc_F sd ch s 1 n) (pv_N sd s n).toNat ∧ pc_mi (pc_F sd ch s 1 n) (pc_F sd ch s (-1) n) (pv_N sd s n).toNat := by
  intro n
  induction n with
  | zero => exact ⟨fun i j _ h => absurd h (Nat.not_lt_zero j), fun i h => absurd h (Nat.not_lt_zero i)⟩
  | succ n ih =>
    have nb := pv_NB (sd := sd) (s := s) n
    have e : pv_N sd s (n + 1) = pv_N sd s n + (if sd n = s then 1 else 0) := rfl
    rw [pc_FS, pc_FS]
    by_cases q : sd n = s
    · rw [if_pos q] at e
      rw [if_pos q, if_pos q, e, show (pv_N sd s n + 1).toNat = (pv_N sd s n).toNat + 1 by omega, Int.one_mul, show -1 * ch n = -ch n by omega]
      exact ⟨pc_isA ih.1, pc_isM ih.1 ih.2⟩
    · rw [if_neg q] at e
      rw [if_neg q, if_neg q, e, show pv_N sd s n + 0 = pv_N sd s n by omega]
      exact ih
/-- the sum of the first k, or of the last k of n -/
def pc_X (s : Nat → Int) (n z : Int) : Nat → Int
  | 0 => 0
  | k + 1 => pc_X s n z k + (if z = 1 then s (n - 1 - (k : Int)).toNat else s k)
theorem pc_Xs {s : Nat → Int} {n z k : Int} (h0 : 0 ≤ k) : (z = 1 → pc_X s n z (k + 1).toNat = pc_X s n z k.toNat + s (n - 1 - k).toNat) ∧ (¬ z = 1 → pc_X s n z (k + 1).toNat = pc_X s n z k.toNat + s k.toNat) := by
  have e : pc_X s n z (k.toNat + 1) = pc_X s n z k.toNat + (if z = 1 then s (n - 1 - ((k.toNat : Nat) : Int)).toNat else s k.toNat) := rfl
  rw [show (k + 1).toNat = k.toNat + 1 by omega, e, show ((k.toNat : Nat) : Int) = k by omega]
  exact ⟨fun q => by rw [if_pos q], fun q => by rw [if_neg q]⟩
theorem pc_XC {s t : Nat → Int} {n z : Int} (H : ∀ j : Nat, (j : Int) < n → s j = t j) : ∀ k : Nat, (k : Int) ≤ n → pc_X s n z k = pc_X t n z k := by
  intro k
  induction k with
  | zero => intro _; rfl
  | succ k ih =>
    intro hk
    have e : ∀ u : Nat → Int, pc_X u n z (k + 1) = pc_X u n z k + (if z = 1 then u (n - 1 - (k : Int)).toNat else u k) := fun _ => rfl
    rw [e s, e t, ih (by omega), H k (by omega), H (n - 1 - (k : Int)).toNat (by omega)]
theorem pc_XM {s t : Nat → Int} {n : Int} (M : pc_mi s t n.toNat) : ∀ k : Nat, (k : Int) ≤ n → pc_X t n 0 k = -pc_X s n 1 k := by
  intro k
  induction k with
  | zero => intro _; rfl
  | succ k ih =>
    intro hk
    have e1 : pc_X t n 0 (k + 1) = pc_X t n 0 k + t k := rfl
    have e2 : pc_X s n 1 (k + 1) = pc_X s n 1 k + s (n - 1 - (k : Int)).toNat := rfl
    have m := M k (by omega)
    rw [e1, e2, ih (by omega), m, show n.toNat - 1 - k = (n - 1 - (k : Int)).toNat by omega]
    omega
/-- the sum of the k least, or greatest, changes of a side -/
def pc_K (sd ch : Nat → Int) (s z k : Int) : Int := pc_X (pc_F sd ch s 1 24) (pv_N sd s 24) z k.toNat
theorem pc_KC {sd sd' ch ch' : Nat → Int} {s z k : Int} (H : ∀ k : Nat, k < 24 → sd k = sd' k ∧ (sd k = s → ch k = ch' k)) : pc_K sd ch s z k = pc_K sd' ch' s z k := by
  unfold pc_K
  rw [pc_FC 24 H, (pv_cg (sd := sd) (sd' := sd') (ch := ch) (ch' := ch') (s := s) 24 H).1]
theorem pc_KM {sd ch : Nat → Int} {s k : Int} (h0 : 0 ≤ k) (hk : k ≤ pv_N sd s 24) : 1 * pc_X (pc_F sd ch s 1 24) (pv_N sd s 24) 0 k.toNat = pc_K sd ch s 0 k ∧ -1 * pc_X (pc_F sd ch s (-1) 24) (pv_N sd s 24) 0 k.toNat = pc_K sd ch s 1 k := by
  unfold pc_K
  have m := pc_XM (pc_FM (sd := sd) (ch := ch) (s := s) 24).2 k.toNat (by omega)
  rw [m]
  exact ⟨by omega, by omega⟩
/-- both sides have as many -/
def pc_OK (sd : Nat → Int) (k : Int) : Prop := k ≤ pv_N sd 0 24 ∧ k ≤ pv_N sd 1 24
/-- what choosing can make of the river -/
def pc_U (sd ch : Nat → Int) (z k : Int) : Int := pc_K sd ch 0 z k - pc_K sd ch 1 (1 - z) k
theorem pc_UC {sd sd' ch ch' : Nat → Int} {z k : Int} (H : ∀ k : Nat, k < 24 → sd k = sd' k ∧ (sd k ≠ -1 → ch k = ch' k)) : pc_U sd ch z k = pc_U sd' ch' z k ∧ (pc_OK sd k ↔ pc_OK sd' k) := by
  have u := pv_Ucg H
  unfold pc_U pc_OK
  rw [pc_KC (s := 0) (fun j hj => ⟨(H j hj).1, fun q => (H j hj).2 (by omega)⟩), pc_KC (s := 1) (fun j hj => ⟨(H j hj).1, fun q => (H j hj).2 (by omega)⟩), u.2.2.2.1, u.2.2.2.2]
  exact ⟨rfl, Iff.rfl⟩
/-- the row holds what was gathered up to k -/
def pc_GA (sd ch : Nat → Int) (s : Int) (g : Nat → Int) (k : Int) : Prop := ∀ j : Nat, (j : Int) < pv_N sd s k.toNat → g j = pc_G sd ch s k.toNat j
theorem pc_GA.z {sd ch : Nat → Int} {s : Int} {g : Nat → Int} : pc_GA sd ch s g 0 := fun j hj => by
  have e : pv_N sd s (Int.toNat 0) = 0 := rfl
  omega
theorem pc_GA.no {sd ch : Nat → Int} {s k : Int} {g : Nat → Int} (H : pc_GA sd ch s g k) (h0 : 0 ≤ k) (q : ¬ (sd k.toNat = s)) : pc_GA sd ch s g (k + 1) := fun j hj => by
  rw [(pv_Ns h0).2 q] at hj
  rw [show (k + 1).toNat = k.toNat + 1 by omega, pc_GS, if_neg (fun z => q z.1)]
  exact H j hj
theorem pc_GA.yes {sd ch : Nat → Int} {s k n x : Int} {g g' : pm_H} (H : pc_GA sd ch s (pw_g g 19) k) (h0 : 0 ≤ k) (h1 : n ≤ 23) (hn : n = pv_N sd s k.toNat) (q : sd k.toNat = s) (hx : x = ch k.toNat) (x1 : -2147483648 ≤ x) (x2 : x ≤ 2147483647) (I : pw_I g) (w : pw_w g 19 n.toNat (pw_i x) = g') : pc_GA sd ch s (pw_g g' 19) (k + 1) := fun j hj => by
  have nb := pv_NB (sd := sd) (s := s) k.toNat
  rw [(pv_Ns h0).1 q] at hj
  rw [show (k + 1).toNat = k.toNat + 1 by omega, pc_GS]
  rcases (by omega : j = n.toNat ∨ (j : Int) < n) with r | r
  · rw [if_pos ⟨q, by omega⟩, r, ← w, ← hx]
    exact pw_g_eqA I rfl (by omega) x1 x2
  · rw [if_neg (fun z => by have := z.2; omega), ← w, pw_g_ne (fun z => by have := z.2; omega)]
    exact H j (by omega)
/-- the row is sorted -/
def pc_SO (r g : Nat → Int) (n : Int) : Prop := ∀ j : Nat, (j : Int) < n → g j = pc_so r n.toNat j
theorem pc_SI.so {r g : Nat → Int} {i n : Int} (H : pc_SI r g i) (hn : n = 0 ∨ i = n) : pc_SO r g n := fun j hj => by
  rcases hn with q | q
  · omega
  · rw [← q] at hj ⊢; exact H.1 j hj
theorem pc_row {sd ch r g : Nat → Int} {s n : Int} (G : pc_GA sd ch s r 24) (S : pc_SO r g n) (hn : n = pv_N sd s 24) : ∀ j : Nat, (j : Int) < n → g j = pc_F sd ch s 1 24 j := fun j hj => by
  have e : (24 : Int).toNat = 24 := rfl
  unfold pc_GA at G
  rw [e] at G
  rw [S j hj, ← pc_GF, ← hn, pc_soC n.toNat (fun i hi => G i (by omega))]
theorem pv_sdmE {W : List Nat} {h h' : pm_H} {b e : Int} (I : pw_I h) (E : pw_E W h h') (hn : ((W.contains 131 || (W.contains 132 || W.contains 138)) || (W.contains 1015 || (W.contains 139 || W.contains 140))) = false) : pv_sdm h' b e = pv_sdm h b e ∧ pv_chm h' b e = pv_chm h b e := by
  obtain ⟨h1, h3⟩ := Bool.or_eq_false_iff.mp hn
  obtain ⟨h1, h2⟩ := Bool.or_eq_false_iff.mp h1
  obtain ⟨h2, h4⟩ := Bool.or_eq_false_iff.mp h2
  refine ⟨funext (fun k => ?_), funext (fun k => ?_)⟩
  · unfold pv_sdm
    rw [pw_Eg (c := 131) I E rfl h1, pw_Eg (c := 132) I E rfl h2, pw_Eg (c := 138) I E rfl h4, pw_Eg (c := 138) I E rfl h4]
  · unfold pv_chm
    rw [pv_hmkE I E h3, pv_hmkE I E h3]
end
section
/-! choosing of the class, exactly -/
set_option maxHeartbeats 4000000 in
theorem cm_92_s {X : List (Nat × List Value)} {d : Nat} {h : pm_H} (hd : 1 ≤ d) (I : pw_I h) (sd : Int) (hsd1 : 0 ≤ sd) (hsd2 : sd ≤ 1) : pw X d h 92 0 [some (.ref 32), some (pw_i sd), none, none] [] (fun h' v => pw_I h' ∧ pw_E [19] h h' ∧ (pc_GA (pw_g h 17) (pw_g h 18) sd (pw_g h' 19) 24) ∧ (∃ a : Int, v = .inl (some (pw_i a)) ∧ 0 ≤ a ∧ a ≤ 24 ∧ (a = pv_N (pw_g h 17) sd 24))) := by
  have E : pm_ent 92 = some (2, 4, 8, 0, pmc_92) := rfl
  have E0 : pw_E [19] h h := pw_E.rf _ _
  refine pw_ld E (pc' := 1) (st' := [pw_i 0]) rfl (fun _ => rfl) ?_
  refine pw_istn E (pc' := 2) (ls' := [some (.ref 32), some (pw_i sd), some (pw_i 0), none]) rfl rfl rfl rfl ?_
  refine pw_ld E (pc' := 3) (st' := [pw_i 0]) rfl (fun _ => rfl) ?_
  refine pw_istn E (pc' := 4) (ls' := [some (.ref 32), some (pw_i sd), some (pw_i 0), some (pw_i 0)]) rfl rfl rfl rfl ?_
  have L4 : ∀ (n4 : Nat) (k4_2 : Int) (k4_3 : Int) (gh4 : pm_H), pw_I gh4 → pw_E [19] h gh4 → 0 ≤ k4_2 → k4_2 ≤ 24 → 0 ≤ k4_3 → k4_3 ≤ 24 → k4_2 ≤ k4_3 → k4_2 = pv_N (pw_g h 17) sd (k4_3).toNat → pc_GA (pw_g h 17) (pw_g h 18) sd (pw_g gh4 19) k4_3 → (24 - k4_3).toNat = n4 → pw X d gh4 92 4 [some (.ref 32), some (pw_i sd), some (pw_i k4_2), some (pw_i k4_3)] [] (fun h' v => pw_I h' ∧ pw_E [19] h h' ∧ (pc_GA (pw_g h 17) (pw_g h 18) sd (pw_g h' 19) 24) ∧ (∃ a : Int, v = .inl (some (pw_i a)) ∧ 0 ≤ a ∧ a ≤ 24 ∧ (a = pv_N (pw_g h 17) sd 24))) := by
    intro n4
    induction n4 using Nat.strongRecOn with
    | ind n4 ih4 =>
      intro k4_2 k4_3 gh4 I4 E4 k4_2a k4_2b k4_3a k4_3b hx4_0 hx4_1 hx4_2 hm4
      refine pw_ld E (pc' := 5) (st' := [pw_i k4_3]) rfl (fun _ => rfl) ?_
      refine pw_bip E (pc' := 7) rfl rfl (by decide) ?_
      refine pw_if2 E (pc' := 41) rfl (by decide) (by omega) (by omega) (by decide) (by decide) ?_ ?_
      · intro hc1
        change (24 : Int) ≤ k4_3 at hc1
        rw [show (k4_3).toNat = 24 by omega] at hx4_1
        refine pw_ld E (pc' := 42) (st' := [pw_i k4_2]) rfl (fun _ => rfl) ?_
        refine pw_iret E rfl ?_
        exact ⟨I4, E4, ⟨(by rw [show (24 : Int) = k4_3 by omega]; exact hx4_2), ⟨_, rfl, by omega, by omega, by omega⟩⟩⟩
      · intro hc2
        change ¬ ((24 : Int) ≤ k4_3) at hc2
        have o1 := pv_Ns (sd := pw_g h 17) (s := sd) (k := k4_3) (by omega)
        have q7 : pw_g gh4 17 (k4_3).toNat = pw_g h 17 (k4_3).toNat := pw_Eg (c := 17) I E4 rfl rfl _
        have q8 : pw_g h 18 (k4_3).toNat = pw_g gh4 18 (k4_3).toNat := (pw_Eg (c := 18) I E4 rfl rfl _).symm
        refine pw_ld E (pc' := 11) (st' := [.ref 32]) rfl (fun _ => rfl) ?_
        refine pw_getR (b := 33) I4 E (c := 16) (k := 0) (pc' := 14) rfl rfl rfl rfl rfl rfl rfl ?_
        refine pw_ld E (pc' := 15) (st' := [pw_i k4_3, .ref 33]) rfl (fun _ => rfl) ?_
        refine pw_ald2 I4 E (c := 17) (pc' := 16) rfl rfl rfl (by decide) rfl (by decide) (by omega) (by omega) rfl (fun hf3a hf3b => ?_)
        refine pw_ld E (pc' := 17) (st' := [pw_i sd, pw_i (pw_g gh4 17 (k4_3.toNat))]) rfl (fun _ => rfl) ?_
        refine pw_if2 E (pc' := 35) rfl (by decide) (by omega) (by omega) (by omega) (by omega) ?_ ?_
        · intro hc4
          change pw_g gh4 17 (k4_3.toNat) ≠ sd at hc4
          refine pw_inc E (pc' := 38) (ls' := [some (.ref 32), some (pw_i sd), some (pw_i k4_2), some (pw_i (k4_3 + 1))]) rfl rfl rfl rfl ?_
          refine pw_goto E (pc' := 4) rfl (by decide) ?_
          exact ih4 _ (by omega) (k4_2) (k4_3 + 1) gh4 I4 E4 (by omega) (by omega) (by omega) (by omega) (by omega) (by omega) (by first | exact pc_GA.yes hx4_2 (by omega) (by omega) hx4_1 (by omega) (q8.symm) (by omega) (by omega) I4 (by assumption) | exact pc_GA.no hx4_2 (by omega) (by omega)) rfl
        · intro hc5
          change ¬ (pw_g gh4 17 (k4_3.toNat) ≠ sd) at hc5
          refine pw_ld E (pc' := 21) (st' := [.ref 32]) rfl (fun _ => rfl) ?_
          refine pw_getR (b := 35) I4 E (c := 16) (k := 2) (pc' := 24) rfl rfl rfl rfl rfl rfl rfl ?_
          refine pw_ld E (pc' := 25) (st' := [pw_i k4_2, .ref 35]) rfl (fun _ => rfl) ?_
          refine pw_ld E (pc' := 26) (st' := [.ref 32, pw_i k4_2, .ref 35]) rfl (fun _ => rfl) ?_
          refine pw_getR (b := 34) I4 E (c := 16) (k := 1) (pc' := 29) rfl rfl rfl rfl rfl rfl rfl ?_
          refine pw_ld E (pc' := 30) (st' := [pw_i k4_3, .ref 34, pw_i k4_2, .ref 35]) rfl (fun _ => rfl) ?_
          refine pw_ald2 I4 E (c := 18) (pc' := 31) rfl rfl rfl (by decide) rfl (by decide) (by omega) (by omega) rfl (fun hf6a hf6b => ?_)
          refine pw_ast0 I4 E (c := 19) (pc' := 32) rfl rfl rfl (by decide) rfl (by decide) (by omega) (by omega) rfl (by omega) (by omega) (by omega) (by omega) rfl ?_
          intro h7I h7E
          generalize h7w : pw_w gh4 19 (k4_2.toNat) (pw_i (pw_g gh4 18 (k4_3.toNat))) = h7 at h7I h7E ⊢
          have h7F := E4.tr (h7E.wk (W' := [19]) (by first | rfl | simp))
          refine pw_inc E (pc' := 35) (ls' := [some (.ref 32), some (pw_i sd), some (pw_i (k4_2 + 1)), some (pw_i k4_3)]) rfl rfl rfl rfl ?_
          refine pw_inc E (pc' := 38) (ls' := [some (.ref 32), some (pw_i sd), some (pw_i (k4_2 + 1)), some (pw_i (k4_3 + 1))]) rfl rfl rfl rfl ?_
          refine pw_goto E (pc' := 4) rfl (by decide) ?_
          exact ih4 _ (by omega) (k4_2 + 1) (k4_3 + 1) h7 h7I h7F (by omega) (by omega) (by omega) (by omega) (by omega) (by omega) (by first | exact pc_GA.yes hx4_2 (by omega) (by omega) hx4_1 (by omega) (q8.symm) (by omega) (by omega) I4 (by assumption) | exact pc_GA.no hx4_2 (by omega) (by omega)) rfl
  exact L4 _ (0) (0) h I E0 (by omega) (by omega) (by omega) (by omega) (by omega) rfl pc_GA.z rfl
set_option maxHeartbeats 4000000 in
theorem cm_95_s {X : List (Nat × List Value)} {d : Nat} {h : pm_H} (hd : 1 ≤ d) (I : pw_I h) (n : Int) (hn1 : 0 ≤ n) (hn2 : n ≤ 24) : pw X d h 95 0 [some (.ref 32), some (pw_i n), none, none, none] [] (fun h' v => pw_I h' ∧ pw_E [19] h h' ∧ (pc_SO (pw_g h 19) (pw_g h' 19) n) ∧ (v = .inl none)) := by
  have E : pm_ent 95 = some (2, 5, 8, 4, pmc_95) := rfl
  have E0 : pw_E [19] h h := pw_E.rf _ _
  refine pw_ld E (pc' := 1) (st' := [pw_i 1]) rfl (fun _ => rfl) ?_
  refine pw_istn E (pc' := 2) (ls' := [some (.ref 32), some (pw_i n), some (pw_i 1), none, none]) rfl rfl rfl rfl ?_
  have L2 : ∀ (n2 : Nat) (k2_2 : Int) (k2_3 : Option Value) (k2_4 : Option Value) (gh2 : pm_H), pw_I gh2 → pw_E [19] h gh2 → 1 ≤ k2_2 → k2_2 ≤ 24 → k2_2 = 1 ∨ k2_2 ≤ n → pc_SI (pw_g h 19) (pw_g gh2 19) k2_2 → (24 - k2_2).toNat = n2 → pw X d gh2 95 2 [some (.ref 32), some (pw_i n), some (pw_i k2_2), k2_3, k2_4] [] (fun h' v => pw_I h' ∧ pw_E [19] h h' ∧ (pc_SO (pw_g h 19) (pw_g h' 19) n) ∧ (v = .inl none)) := by
    intro n2
    induction n2 using Nat.strongRecOn with
    | ind n2 ih2 =>
      intro k2_2 k2_3 k2_4 gh2 I2 E2 k2_2a k2_2b hx2_0 hx2_1 hm2
      refine pw_ld E (pc' := 3) (st' := [pw_i k2_2]) rfl (fun _ => rfl) ?_
      refine pw_ld E (pc' := 4) (st' := [pw_i n, pw_i k2_2]) rfl (fun _ => rfl) ?_
      refine pw_if2 E (pc' := 71) rfl (by decide) (by omega) (by omega) (by omega) (by omega) ?_ ?_
      · intro hc1
        change n ≤ k2_2 at hc1
        refine pw_vret E rfl ?_
        exact ⟨I2, E2, ⟨(pc_SI.so hx2_1 (by omega)), rfl⟩⟩
      · intro hc2
        change ¬ (n ≤ k2_2) at hc2
        refine pw_ld E (pc' := 8) (st' := [.ref 32]) rfl (fun _ => rfl) ?_
        refine pw_getR (b := 35) I2 E (c := 16) (k := 2) (pc' := 11) rfl rfl rfl rfl rfl rfl rfl ?_
        refine pw_ld E (pc' := 12) (st' := [pw_i k2_2, .ref 35]) rfl (fun _ => rfl) ?_
        refine pw_ald2 I2 E (c := 19) (pc' := 13) rfl rfl rfl (by decide) rfl (by decide) (by omega) (by omega) rfl (fun hf3a hf3b => ?_)
        refine pw_istn E (pc' := 14) (ls' := [some (.ref 32), some (pw_i n), some (pw_i k2_2), some (pw_i (pw_g gh2 19 (k2_2.toNat))), k2_4]) rfl rfl rfl rfl ?_
        refine pw_ld E (pc' := 15) (st' := [pw_i k2_2]) rfl (fun _ => rfl) ?_
        refine pw_ist E (pc' := 17) (ls' := [some (.ref 32), some (pw_i n), some (pw_i k2_2), some (pw_i (pw_g gh2 19 (k2_2.toNat))), some (pw_i k2_2)]) rfl rfl rfl rfl ?_
        have L17 : ∀ (n17 : Nat) (k17_4 : Int) (gh17 : pm_H), pw_I gh17 → pw_E [19] h gh17 → 0 ≤ k17_4 → k17_4 ≤ 23 → k17_4 ≤ k2_2 → pc_IN (pc_so (pw_g h 19) (k2_2).toNat) (pw_g gh17 19) k2_2 k17_4 (pw_g gh2 19 (k2_2.toNat)) → pc_TL (pw_g h 19) (pw_g gh17 19) k2_2 → (k17_4).toNat = n17 → pw X d gh17 95 17 [some (.ref 32), some (pw_i n), some (pw_i k2_2), some (pw_i (pw_g gh2 19 (k2_2.toNat))), some (pw_i k17_4)] [] (fun h' v => pw_I h' ∧ pw_E [19] h h' ∧ (pc_SO (pw_g h 19) (pw_g h' 19) n) ∧ (v = .inl none)) := by
          intro n17
          induction n17 using Nat.strongRecOn with
          | ind n17 ih17 =>
            intro k17_4 gh17 I17 E17 k17_4a k17_4b hx17_0 hx17_1 hx17_2 hm17
            refine pw_ld E (pc' := 19) (st' := [pw_i k17_4]) rfl (fun _ => rfl) ?_
            refine pw_if E (pc' := 57) rfl (by decide) (by omega) (by omega) ?_ ?_
            · intro hc4
              change k17_4 ≤ (0 : Int) at hc4
              refine pw_ld E (pc' := 58) (st' := [.ref 32]) rfl (fun _ => rfl) ?_
              refine pw_getR (b := 35) I17 E (c := 16) (k := 2) (pc' := 61) rfl rfl rfl rfl rfl rfl rfl ?_
              refine pw_ld E (pc' := 63) (st' := [pw_i k17_4, .ref 35]) rfl (fun _ => rfl) ?_
              refine pw_ld E (pc' := 64) (st' := [pw_i (pw_g gh2 19 (k2_2.toNat)), pw_i k17_4, .ref 35]) rfl (fun _ => rfl) ?_
              refine pw_ast0 I17 E (c := 19) (pc' := 65) rfl rfl rfl (by decide) rfl (by decide) (by omega) (by omega) rfl (by omega) (by omega) (by omega) (by omega) rfl ?_
              intro h5I h5E
              generalize h5w : pw_w gh17 19 (k17_4.toNat) (pw_i (pw_g gh2 19 (k2_2.toNat))) = h5 at h5I h5E ⊢
              have h5F := E17.tr (h5E.wk (W' := [19]) (by first | rfl | simp))
              refine pw_inc E (pc' := 68) (ls' := [some (.ref 32), some (pw_i n), some (pw_i (k2_2 + 1)), some (pw_i (pw_g gh2 19 (k2_2.toNat))), some (pw_i k17_4)]) rfl rfl rfl rfl ?_
              refine pw_goto E (pc' := 2) rfl (by decide) ?_
              exact ih2 _ (by omega) (k2_2 + 1) (some (pw_i (pw_g gh2 19 (k2_2.toNat)))) (some (pw_i k17_4)) h5 h5I h5F (by omega) (by omega) (by omega) (pc_SI.st (by omega) (hx2_1.2 _ (by omega)) (pc_IN.nd hx17_1 rfl (by omega) (by omega) (by omega) (fun _ => by omega) (by omega) (by omega) I17 (by assumption)) (pc_TL.up hx17_2 (by omega) (by omega) (by assumption))) rfl
            · intro hc6
              change ¬ (k17_4 ≤ (0 : Int)) at hc6
              refine pw_ld E (pc' := 23) (st' := [.ref 32]) rfl (fun _ => rfl) ?_
              refine pw_getR (b := 35) I17 E (c := 16) (k := 2) (pc' := 26) rfl rfl rfl rfl rfl rfl rfl ?_
              refine pw_ld E (pc' := 28) (st' := [pw_i k17_4, .ref 35]) rfl (fun _ => rfl) ?_
              refine pw_ld E (pc' := 29) (st' := [pw_i 1, pw_i k17_4, .ref 35]) rfl (fun _ => rfl) ?_
              refine pw_sub E (pc' := 30) rfl rfl ?_
              refine pw_ald2 I17 E (c := 19) (pc' := 31) rfl rfl rfl (by decide) rfl (by decide) (by omega) (by omega) rfl (fun hf7a hf7b => ?_)
              refine pw_ld E (pc' := 32) (st' := [pw_i (pw_g gh2 19 (k2_2.toNat)), pw_i (pw_g gh17 19 ((k17_4 - 1).toNat))]) rfl (fun _ => rfl) ?_
              refine pw_if2 E (pc' := 57) rfl (by decide) (by omega) (by omega) (by omega) (by omega) ?_ ?_
              · intro hc8
                change pw_g gh17 19 ((k17_4 - 1).toNat) ≤ pw_g gh2 19 (k2_2.toNat) at hc8
                refine pw_ld E (pc' := 58) (st' := [.ref 32]) rfl (fun _ => rfl) ?_
                refine pw_getR (b := 35) I17 E (c := 16) (k := 2) (pc' := 61) rfl rfl rfl rfl rfl rfl rfl ?_
                refine pw_ld E (pc' := 63) (st' := [pw_i k17_4, .ref 35]) rfl (fun _ => rfl) ?_
                refine pw_ld E (pc' := 64) (st' := [pw_i (pw_g gh2 19 (k2_2.toNat)), pw_i k17_4, .ref 35]) rfl (fun _ => rfl) ?_
                refine pw_ast0 I17 E (c := 19) (pc' := 65) rfl rfl rfl (by decide) rfl (by decide) (by omega) (by omega) rfl (by omega) (by omega) (by omega) (by omega) rfl ?_
                intro h9I h9E
                generalize h9w : pw_w gh17 19 (k17_4.toNat) (pw_i (pw_g gh2 19 (k2_2.toNat))) = h9 at h9I h9E ⊢
                have h9F := E17.tr (h9E.wk (W' := [19]) (by first | rfl | simp))
                refine pw_inc E (pc' := 68) (ls' := [some (.ref 32), some (pw_i n), some (pw_i (k2_2 + 1)), some (pw_i (pw_g gh2 19 (k2_2.toNat))), some (pw_i k17_4)]) rfl rfl rfl rfl ?_
                refine pw_goto E (pc' := 2) rfl (by decide) ?_
                exact ih2 _ (by omega) (k2_2 + 1) (some (pw_i (pw_g gh2 19 (k2_2.toNat)))) (some (pw_i k17_4)) h9 h9I h9F (by omega) (by omega) (by omega) (pc_SI.st (by omega) (hx2_1.2 _ (by omega)) (pc_IN.nd hx17_1 rfl (by omega) (by omega) (by omega) (fun _ => by omega) (by omega) (by omega) I17 (by assumption)) (pc_TL.up hx17_2 (by omega) (by omega) (by assumption))) rfl
              · intro hc10
                change ¬ (pw_g gh17 19 ((k17_4 - 1).toNat) ≤ pw_g gh2 19 (k2_2.toNat)) at hc10
                refine pw_ld E (pc' := 36) (st' := [.ref 32]) rfl (fun _ => rfl) ?_
                refine pw_getR (b := 35) I17 E (c := 16) (k := 2) (pc' := 39) rfl rfl rfl rfl rfl rfl rfl ?_
                refine pw_ld E (pc' := 41) (st' := [pw_i k17_4, .ref 35]) rfl (fun _ => rfl) ?_
                refine pw_ld E (pc' := 42) (st' := [.ref 32, pw_i k17_4, .ref 35]) rfl (fun _ => rfl) ?_
                refine pw_getR (b := 35) I17 E (c := 16) (k := 2) (pc' := 45) rfl rfl rfl rfl rfl rfl rfl ?_
                refine pw_ld E (pc' := 47) (st' := [pw_i k17_4, .ref 35, pw_i k17_4, .ref 35]) rfl (fun _ => rfl) ?_
                refine pw_ld E (pc' := 48) (st' := [pw_i 1, pw_i k17_4, .ref 35, pw_i k17_4, .ref 35]) rfl (fun _ => rfl) ?_
                refine pw_sub E (pc' := 49) rfl rfl ?_
                refine pw_ald2 I17 E (c := 19) (pc' := 50) rfl rfl rfl (by decide) rfl (by decide) (by omega) (by omega) rfl (fun hf11a hf11b => ?_)
                refine pw_ast0 I17 E (c := 19) (pc' := 51) rfl rfl rfl (by decide) rfl (by decide) (by omega) (by omega) rfl (by omega) (by omega) (by omega) (by omega) rfl ?_
                intro h12I h12E
                generalize h12w : pw_w gh17 19 (k17_4.toNat) (pw_i (pw_g gh17 19 ((k17_4 - 1).toNat))) = h12 at h12I h12E ⊢
                have h12F := E17.tr (h12E.wk (W' := [19]) (by first | rfl | simp))
                refine pw_inc E (pc' := 54) (ls' := [some (.ref 32), some (pw_i n), some (pw_i k2_2), some (pw_i (pw_g gh2 19 (k2_2.toNat))), some (pw_i (k17_4 + (-1)))]) rfl rfl rfl rfl ?_
                refine pw_goto E (pc' := 17) rfl (by decide) ?_
                exact ih17 _ (by omega) (k17_4 + (-1)) h12 h12I h12F (by omega) (by omega) (by omega) (pc_IN.st hx17_1 rfl (by omega) (by omega) (by omega) (by omega) I17 (by assumption)) (pc_TL.up hx17_2 (by omega) (by omega) (by assumption)) rfl
        exact L17 _ (k2_2) gh2 I2 E2 (by omega) (by omega) (by omega) (pc_IN.z hx2_1.1) (fun j hj => hx2_1.2 j (by omega)) rfl
  exact L2 _ (1) (none) (none) h I E0 (by omega) (by omega) (by omega) pc_SI.z rfl
set_option maxHeartbeats 4000000 in
theorem cm_94_s {X : List (Nat × List Value)} {d : Nat} {h : pm_H} (hd : 2 ≤ d) (I : pw_I h) (sd : Int) (hsd1 : 0 ≤ sd) (hsd2 : sd ≤ 1) (k0 : Int) (hk01 : 1 ≤ k0) (hk02 : k0 ≤ 12) (z : Int) (hz1 : 0 ≤ z) (hz2 : z ≤ 1) (hp0 : pv_Bd h) (hp1 : k0 ≤ pv_N (pw_g h 17) sd 24) : pw X d h 94 0 [some (.ref 32), some (pw_i sd), some (pw_i k0), some (pw_i z), none, none, none, none] [] (fun h' v => pw_I h' ∧ pw_E [19] h h' ∧ ∃ a : Int, v = .inl (some (.long (Int64.ofInt a))) ∧ (-24000) ≤ a ∧ a ≤ 24000 ∧ (a = pc_K (pw_g h 17) (pw_g h 18) sd z k0)) := by
  have E : pm_ent 94 = some (4, 8, 8, 2, pmc_94) := rfl
  have E0 : pw_E [19] h h := pw_E.rf _ _
  refine pw_ld E (pc' := 1) (st' := [.ref 32]) rfl (fun _ => rfl) ?_
  refine pw_ld E (pc' := 2) (st' := [pw_i sd, .ref 32]) rfl (fun _ => rfl) ?_
  obtain ⟨f1l, f1h, -⟩ := pw_obj (c := 16) I rfl
  refine pw_call (m' := 92) (As := [.ref 32, pw_i sd]) (rest := []) (ls'' := [some (.ref 32), some (pw_i sd), none, none]) (Nat.le_trans (by decide) hd) E rfl (fun _ => pw_iV rfl rfl rfl rfl (pw_cellI f1h rfl)) (rfl : pm_ent 92 = some (2, 4, 8, 0, pmc_92)) rfl rfl (cm_92_s (pw_dp hd (by decide)) I (sd) (by omega) (by omega)) ?_
  rintro h2 v3 ⟨h2I, h2E, hqga, x4, rfl, hx4a, hx4b, hx4r⟩
  refine ⟨_, rfl, ?_⟩
  have h2F := E0.tr (h2E.wk (W' := [19]) (by first | rfl | simp))
  show pw X d h2 94 5 [some (.ref 32), some (pw_i sd), some (pw_i k0), some (pw_i z), none, none, none, none] [pw_i x4] _
  change x4 = pv_N (pw_g h 17) sd 24 at hx4r
  refine pw_ist E (pc' := 7) (ls' := [some (.ref 32), some (pw_i sd), some (pw_i k0), some (pw_i z), some (pw_i x4), none, none, none]) rfl rfl rfl rfl ?_
  refine pw_ld E (pc' := 8) (st' := [.ref 32]) rfl (fun _ => rfl) ?_
  refine pw_ld E (pc' := 10) (st' := [pw_i x4, .ref 32]) rfl (fun _ => rfl) ?_
  obtain ⟨f5l, f5h, -⟩ := pw_obj (c := 16) h2I rfl
  refine pw_call (m' := 95) (As := [.ref 32, pw_i x4]) (rest := []) (ls'' := [some (.ref 32), some (pw_i x4), none, none, none]) (Nat.le_trans (by decide) hd) E rfl (fun _ => pw_iV rfl rfl rfl rfl (pw_cellI f5h rfl)) (rfl : pm_ent 95 = some (2, 5, 8, 4, pmc_95)) rfl rfl (cm_95_s (pw_dp hd (by decide)) h2I (x4) (by omega) (by omega)) ?_
  rintro h6 v7 ⟨h6I, h6E, hqso, rfl⟩
  refine ⟨_, rfl, ?_⟩
  have h6F := h2F.tr (h6E.wk (W' := [19]) (by first | rfl | simp))
  show pw X d h6 94 13 [some (.ref 32), some (pw_i sd), some (pw_i k0), some (pw_i z), some (pw_i x4), none, none, none] [] _
  have hF := pc_row hqga hqso hx4r
  have hBB : ∀ j : Nat, (j : Int) < x4 → -2000 ≤ pw_g h6 19 j ∧ pw_g h6 19 j ≤ 2000 := fun j hj => by rw [hF j hj]; exact pc_FB (Or.inl rfl) 24 (fun k hk hs => hp0 k hk (by omega)) j (by omega)
  refine pw_ld E (pc' := 14) (st' := [.long (Int64.ofInt 0)]) rfl (fun _ => rfl) ?_
  refine pw_lst E (pc' := 16) (ls' := [some (.ref 32), some (pw_i sd), some (pw_i k0), some (pw_i z), some (pw_i x4), some (.long (Int64.ofInt 0)), none, none]) rfl rfl rfl rfl ?_
  refine pw_ld E (pc' := 17) (st' := [pw_i 0]) rfl (fun _ => rfl) ?_
  refine pw_ist E (pc' := 19) (ls' := [some (.ref 32), some (pw_i sd), some (pw_i k0), some (pw_i z), some (pw_i x4), some (.long (Int64.ofInt 0)), none, some (pw_i 0)]) rfl rfl rfl rfl ?_
  have L19 : ∀ (n19 : Nat) (k19_5 : Int) (k19_7 : Int), (-24000) ≤ k19_5 → k19_5 ≤ 24000 → 0 ≤ k19_7 → k19_7 ≤ 12 → k19_5 = pc_X (pw_g h6 19) (x4) z (k19_7).toNat → (-2000) * k19_7 ≤ k19_5 → k19_5 ≤ 2000 * k19_7 → k19_7 ≤ k0 → (12 - k19_7).toNat = n19 → pw X d h6 94 19 [some (.ref 32), some (pw_i sd), some (pw_i k0), some (pw_i z), some (pw_i x4), some (.long (Int64.ofInt k19_5)), none, some (pw_i k19_7)] [] (fun h' v => pw_I h' ∧ pw_E [19] h h' ∧ ∃ a : Int, v = .inl (some (.long (Int64.ofInt a))) ∧ (-24000) ≤ a ∧ a ≤ 24000 ∧ (a = pc_K (pw_g h 17) (pw_g h 18) sd z k0)) := by
    intro n19
    induction n19 using Nat.strongRecOn with
    | ind n19 ih19 =>
      intro k19_5 k19_7 k19_5a k19_5b k19_7a k19_7b hx19_0 hx19_1 hx19_2 hx19_3 hm19
      refine pw_ld E (pc' := 21) (st' := [pw_i k19_7]) rfl (fun _ => rfl) ?_
      refine pw_ld E (pc' := 22) (st' := [pw_i k0, pw_i k19_7]) rfl (fun _ => rfl) ?_
      refine pw_if2 E (pc' := 65) rfl (by decide) (by omega) (by omega) (by omega) (by omega) ?_ ?_
      · intro hc8
        change k0 ≤ k19_7 at hc8
        refine pw_ld E (pc' := 67) (st' := [.long (Int64.ofInt k19_5)]) rfl (fun _ => rfl) ?_
        refine pw_lret E rfl ?_
        have hk : k19_7 = k0 := by omega
        have hr : k19_5 = pc_K (pw_g h 17) (pw_g h 18) sd z k0 := by rw [hx19_0, hk]; unfold pc_K; rw [← hx4r]; exact pc_XC hF k0.toNat (by omega)
        exact ⟨h6I, h6F, ⟨_, rfl, by omega, by omega, hr⟩⟩
      · intro hc9
        change ¬ (k0 ≤ k19_7) at hc9
        refine pw_ld E (pc' := 27) (st' := [pw_i k19_7]) rfl (fun _ => rfl) ?_
        refine pw_ld E (pc' := 29) (st' := [pw_i x4, pw_i k19_7]) rfl (fun _ => rfl) ?_
        refine pw_if2 E (pc' := 65) rfl (by decide) (by omega) (by omega) (by omega) (by omega) ?_ ?_
        · intro hc10
          change x4 ≤ k19_7 at hc10
          refine pw_ld E (pc' := 67) (st' := [.long (Int64.ofInt k19_5)]) rfl (fun _ => rfl) ?_
          refine pw_lret E rfl ?_
          have hk : k19_7 = k0 := by omega
          have hr : k19_5 = pc_K (pw_g h 17) (pw_g h 18) sd z k0 := by rw [hx19_0, hk]; unfold pc_K; rw [← hx4r]; exact pc_XC hF k0.toNat (by omega)
          exact ⟨h6I, h6F, ⟨_, rfl, by omega, by omega, hr⟩⟩
        · intro hc11
          change ¬ (x4 ≤ k19_7) at hc11
          refine pw_ld E (pc' := 34) (st' := [.long (Int64.ofInt k19_5)]) rfl (fun _ => rfl) ?_
          refine pw_ld E (pc' := 35) (st' := [.ref 32, .long (Int64.ofInt k19_5)]) rfl (fun _ => rfl) ?_
          refine pw_getR (b := 35) h6I E (c := 16) (k := 2) (pc' := 38) rfl rfl rfl rfl rfl rfl rfl ?_
          refine pw_ld E (pc' := 39) (st' := [pw_i z, .ref 35, .long (Int64.ofInt k19_5)]) rfl (fun _ => rfl) ?_
          refine pw_if E (pc' := 52) rfl (by decide) (by omega) (by omega) ?_ ?_
          · intro hc12
            change z = (0 : Int) at hc12
            refine pw_ld E (pc' := 54) (st' := [pw_i k19_7, .ref 35, .long (Int64.ofInt k19_5)]) rfl (fun _ => rfl) ?_
            refine pw_ald2 h6I E (c := 19) (pc' := 55) rfl rfl rfl (by decide) rfl (by decide) (by omega) (by omega) rfl (fun hf13a hf13b => ?_)
            have o2 := hBB ((k19_7.toNat)) (by omega)
            have o1 : pc_X (pw_g h6 19) (x4) z (k19_7 + 1).toNat = pc_X (pw_g h6 19) (x4) z (k19_7).toNat + pw_g h6 19 (k19_7.toNat) := by first | exact (pc_Xs (by omega)).1 (by omega) | exact (pc_Xs (by omega)).2 (by omega)
            refine pw_i2l E (pc' := 56) rfl rfl (by omega) (by omega) ?_
            refine pw_ladd E (pc' := 57) rfl rfl ?_
            refine pw_lst E (pc' := 59) (ls' := [some (.ref 32), some (pw_i sd), some (pw_i k0), some (pw_i z), some (pw_i x4), some (.long (Int64.ofInt (k19_5 + (pw_g h6 19 (k19_7.toNat))))), none, some (pw_i k19_7)]) rfl rfl rfl rfl ?_
            refine pw_inc E (pc' := 62) (ls' := [some (.ref 32), some (pw_i sd), some (pw_i k0), some (pw_i z), some (pw_i x4), some (.long (Int64.ofInt (k19_5 + (pw_g h6 19 (k19_7.toNat))))), none, some (pw_i (k19_7 + 1))]) rfl rfl rfl rfl ?_
            refine pw_goto E (pc' := 19) rfl (by decide) ?_
            exact ih19 _ (by omega) (k19_5 + (pw_g h6 19 (k19_7.toNat))) (k19_7 + 1)  (by omega) (by omega) (by omega) (by omega) (by omega) (by omega) (by omega) (by omega) rfl
          · intro hc14
            change ¬ (z = (0 : Int)) at hc14
            refine pw_ld E (pc' := 44) (st' := [pw_i x4, .ref 35, .long (Int64.ofInt k19_5)]) rfl (fun _ => rfl) ?_
            refine pw_ld E (pc' := 45) (st' := [pw_i 1, pw_i x4, .ref 35, .long (Int64.ofInt k19_5)]) rfl (fun _ => rfl) ?_
            refine pw_sub E (pc' := 46) rfl rfl ?_
            refine pw_ld E (pc' := 48) (st' := [pw_i k19_7, pw_i (x4 - 1), .ref 35, .long (Int64.ofInt k19_5)]) rfl (fun _ => rfl) ?_
            refine pw_sub E (pc' := 49) rfl rfl ?_
            refine pw_goto E (pc' := 54) rfl (by decide) ?_
            refine pw_ald2 h6I E (c := 19) (pc' := 55) rfl rfl rfl (by decide) rfl (by decide) (by omega) (by omega) rfl (fun hf15a hf15b => ?_)
            have o2 := hBB ((((x4 - 1) - k19_7).toNat)) (by omega)
            have o1 : pc_X (pw_g h6 19) (x4) z (k19_7 + 1).toNat = pc_X (pw_g h6 19) (x4) z (k19_7).toNat + pw_g h6 19 (((x4 - 1) - k19_7).toNat) := by first | exact (pc_Xs (by omega)).1 (by omega) | exact (pc_Xs (by omega)).2 (by omega)
            refine pw_i2l E (pc' := 56) rfl rfl (by omega) (by omega) ?_
            refine pw_ladd E (pc' := 57) rfl rfl ?_
            refine pw_lst E (pc' := 59) (ls' := [some (.ref 32), some (pw_i sd), some (pw_i k0), some (pw_i z), some (pw_i x4), some (.long (Int64.ofInt (k19_5 + (pw_g h6 19 (((x4 - 1) - k19_7).toNat))))), none, some (pw_i k19_7)]) rfl rfl rfl rfl ?_
            refine pw_inc E (pc' := 62) (ls' := [some (.ref 32), some (pw_i sd), some (pw_i k0), some (pw_i z), some (pw_i x4), some (.long (Int64.ofInt (k19_5 + (pw_g h6 19 (((x4 - 1) - k19_7).toNat))))), none, some (pw_i (k19_7 + 1))]) rfl rfl rfl rfl ?_
            refine pw_goto E (pc' := 19) rfl (by decide) ?_
            exact ih19 _ (by omega) (k19_5 + (pw_g h6 19 (((x4 - 1) - k19_7).toNat))) (k19_7 + 1)  (by omega) (by omega) (by omega) (by omega) (by omega) (by omega) (by omega) (by omega) rfl
  exact L19 _ (0) (0)  (by omega) (by omega) (by omega) (by omega) rfl (by omega) (by omega) (by omega) rfl
set_option maxHeartbeats 4000000 in
theorem cm_178_s {X : List (Nat × List Value)} {d : Nat} {h : pm_H} (hd : 5 ≤ d) (I : pw_I h) (b : Int) (hb1 : (-2147483648) ≤ b) (hb2 : b ≤ 2147483647) (e : Int) (he1 : (-2147483648) ≤ e) (he2 : e ≤ 2147483647) (k0 : Int) (hk01 : (-2147483648) ≤ k0) (hk02 : k0 ≤ 2147483647) (wt : Int) (hwt1 : (-2147483648) ≤ wt) (hwt2 : wt ≤ 2147483647) : pw X d h 178 0 [some (.ref 16), some (pw_i b), some (pw_i e), some (pw_i k0), some (pw_i wt), none] [] (fun h' v => pw_I h' ∧ pw_E [17, 18, 19, 22] h h' ∧ ((v = .inr () ∧ (¬ (0 ≤ b ∧ b ≤ 11 ∧ 0 ≤ e ∧ e ≤ 11 ∧ b ≠ e ∧ 1 ≤ k0 ∧ k0 ≤ 12 ∧ 0 ≤ wt ∧ wt ≤ 3) ∨ ¬ pc_OK (pv_sdc h b e) k0)) ∨ (∃ a : Int, v = .inl (some (.long (Int64.ofInt a))) ∧ (-1099511627776) ≤ a ∧ a ≤ 1099511627776 ∧ ((0 ≤ b ∧ b ≤ 11 ∧ 0 ≤ e ∧ e ≤ 11 ∧ b ≠ e ∧ 1 ≤ k0 ∧ k0 ≤ 12 ∧ 0 ≤ wt ∧ wt ≤ 3) ∧ pc_OK (pv_sdc h b e) k0 ∧ a = pv_LW (pc_U (pv_sdc h b e) (pv_chc h b e) (pv_z wt) k0) k0 (wt % 2))))) := by
  have E : pm_ent 178 = some (5, 6, 11, 2, pmc_178) := rfl
  have E0 : pw_E [17, 18, 19, 22] h h := pw_E.rf _ _
  refine pw_ld E (pc' := 1) (st' := [pw_i b]) rfl (fun _ => rfl) ?_
  refine pw_ld E (pc' := 2) (st' := [pw_i e, pw_i b]) rfl (fun _ => rfl) ?_
  refine pw_call (m' := 131) (As := [pw_i b, pw_i e]) (rest := []) (ls'' := [some (pw_i b), some (pw_i e)]) (Nat.le_trans (by decide) hd) E rfl (fun _ => pw_iS rfl rfl rfl) (rfl : pm_ent 131 = some (2, 2, 11, 1, pmc_131)) rfl rfl (cm_131_s (pw_dp hd (by decide)) I (b) (by omega) (by omega) (e) (by omega) (by omega)) ?_
  rintro u2 v1 ⟨rfl, x3, rfl, hx3a, hx3b, hx3r⟩
  refine ⟨_, rfl, ?_⟩
  show pw X d h 178 5 [some (.ref 16), some (pw_i b), some (pw_i e), some (pw_i k0), some (pw_i wt), none] [pw_i x3] _
  change (x3 = 1 ∧ 0 ≤ b ∧ b ≤ 11 ∧ 0 ≤ e ∧ e ≤ 11 ∧ b ≠ e) ∨ (x3 = 0 ∧ ¬ (0 ≤ b ∧ b ≤ 11 ∧ 0 ≤ e ∧ e ≤ 11 ∧ b ≠ e)) at hx3r
  rcases (by omega : x3 = 1 ∨ x3 = 0) with hb4 | hb4
  · skip
    refine pw_if E (pc' := 26) rfl (by decide) (by omega) (by omega) ?_ ?_
    · intro hc5
      change x3 = (0 : Int) at hc5
      exfalso; omega
    · intro hc6
      change ¬ (x3 = (0 : Int)) at hc6
      refine pw_ld E (pc' := 9) (st' := [pw_i k0]) rfl (fun _ => rfl) ?_
      refine pw_ld E (pc' := 10) (st' := [pw_i 1, pw_i k0]) rfl (fun _ => rfl) ?_
      refine pw_bip E (pc' := 12) rfl rfl (by decide) ?_
      refine pw_call (m' := 121) (As := [pw_i k0, pw_i 1, pw_i 12]) (rest := []) (ls'' := [some (pw_i k0), some (pw_i 1), some (pw_i 12)]) (Nat.le_trans (by decide) hd) E rfl (fun _ => pw_iS rfl rfl rfl) (rfl : pm_ent 121 = some (3, 3, 11, 1, pmc_121)) rfl rfl (cm_121 (pw_dp hd (by decide)) I (k0) (by omega) (by omega) (1) (by omega) (by omega) (12) (by omega) (by omega)) ?_
      rintro u8 v7 ⟨rfl, x9, rfl, hx9a, hx9b, hx9r⟩
      refine ⟨_, rfl, ?_⟩
      show pw X d h 178 15 [some (.ref 16), some (pw_i b), some (pw_i e), some (pw_i k0), some (pw_i wt), none] [pw_i x9] _
      change (x9 = 1 ∧ 1 ≤ k0 ∧ k0 ≤ 12) ∨ (x9 = 0 ∧ ¬ (1 ≤ k0 ∧ k0 ≤ 12)) at hx9r
      rcases (by omega : x9 = 1 ∨ x9 = 0) with hb10 | hb10
      · skip
        refine pw_if E (pc' := 26) rfl (by decide) (by omega) (by omega) ?_ ?_
        · intro hc11
          change x9 = (0 : Int) at hc11
          exfalso; omega
        · intro hc12
          change ¬ (x9 = (0 : Int)) at hc12
          refine pw_ld E (pc' := 20) (st' := [pw_i wt]) rfl (fun _ => rfl) ?_
          refine pw_call (m' := 174) (As := [pw_i wt]) (rest := []) (ls'' := [some (pw_i wt)]) (Nat.le_trans (by decide) hd) E rfl (fun _ => pw_iS rfl rfl rfl) (rfl : pm_ent 174 = some (1, 1, 11, 1, pmc_174)) rfl rfl (cm_174 (pw_dp hd (by decide)) I (wt) (by omega) (by omega)) ?_
          rintro u14 v13 ⟨rfl, x15, rfl, hx15a, hx15b, hx15r⟩
          refine ⟨_, rfl, ?_⟩
          show pw X d h 178 23 [some (.ref 16), some (pw_i b), some (pw_i e), some (pw_i k0), some (pw_i wt), none] [pw_i x15] _
          change (x15 = 1 ∧ 0 ≤ wt ∧ wt ≤ 3) ∨ (x15 = 0 ∧ ¬ (0 ≤ wt ∧ wt ≤ 3)) at hx15r
          rcases (by omega : x15 = 1 ∨ x15 = 0) with hb16 | hb16
          · skip
            refine pw_if E (pc' := 34) rfl (by decide) (by omega) (by omega) ?_ ?_
            · intro hc17
              change x15 ≠ (0 : Int) at hc17
              refine pw_ld E (pc' := 35) (st' := [.ref 16]) rfl (fun _ => rfl) ?_
              refine pw_ld E (pc' := 36) (st' := [pw_i b, .ref 16]) rfl (fun _ => rfl) ?_
              refine pw_ld E (pc' := 37) (st' := [pw_i e, pw_i b, .ref 16]) rfl (fun _ => rfl) ?_
              obtain ⟨f18l, f18h, -⟩ := pw_obj (c := 0) I rfl
              refine pw_call (m' := 138) (As := [.ref 16, pw_i b, pw_i e]) (rest := []) (ls'' := [some (.ref 16), some (pw_i b), some (pw_i e), none]) (Nat.le_trans (by decide) hd) E rfl (fun _ => pw_iV rfl rfl rfl rfl (pw_cellI f18h rfl)) (rfl : pm_ent 138 = some (3, 4, 11, 4, pmc_138)) rfl rfl (cm_138_s (pw_dp hd (by decide)) I (b) (by omega) (by omega) (e) (by omega) (by omega)) ?_
              rintro h19 v20 ⟨h19I, h19E, hqfill, rfl⟩
              refine ⟨_, rfl, ?_⟩
              have h19F := E0.tr (h19E.wk (W' := [17, 18, 19, 22]) (by first | rfl | simp))
              show pw X d h19 178 40 [some (.ref 16), some (pw_i b), some (pw_i e), some (pw_i k0), some (pw_i wt), none] [] _
              have hB := hqfill.bd (pv_chcB I (by omega) (by omega) (by omega) (by omega))
              obtain ⟨-, -, -, eN0, eN1⟩ := hqfill.eq
              refine pw_ld E (pc' := 41) (st' := [.ref 16]) rfl (fun _ => rfl) ?_
              refine pw_getR (b := 32) h19I E (c := 0) (k := 7) (pc' := 44) rfl rfl rfl rfl rfl rfl rfl ?_
              refine pw_ld E (pc' := 45) (st' := [pw_i 0, .ref 32]) rfl (fun _ => rfl) ?_
              obtain ⟨f21l, f21h, -⟩ := pw_obj (c := 16) h19I rfl
              refine pw_call (m' := 84) (As := [.ref 32, pw_i 0]) (rest := []) (ls'' := [some (.ref 32), some (pw_i 0), none, none]) (Nat.le_trans (by decide) hd) E rfl (fun _ => pw_iV rfl rfl rfl rfl (pw_cellI f21h rfl)) (rfl : pm_ent 84 = some (2, 4, 8, 0, pmc_84)) rfl rfl (cm_84_s (pw_dp hd (by decide)) h19I (0) (by omega) (by omega)) ?_
              rintro u23 v22 ⟨rfl, x24, rfl, hx24a, hx24b, hx24r⟩
              refine ⟨_, rfl, ?_⟩
              show pw X d h19 178 48 [some (.ref 16), some (pw_i b), some (pw_i e), some (pw_i k0), some (pw_i wt), none] [pw_i x24] _
              change x24 = pv_N (pw_g h19 17) 0 24 at hx24r
              refine pw_ld E (pc' := 49) (st' := [pw_i k0, pw_i x24]) rfl (fun _ => rfl) ?_
              refine pw_if2 E (pc' := 64) rfl (by decide) (by omega) (by omega) (by omega) (by omega) ?_ ?_
              · intro hc25
                change x24 < k0 at hc25
                refine pw_thr E rfl rfl h19I.2 ?_
                exact ⟨h19I, h19F, Or.inl ⟨rfl, Or.inr (fun q => by have q1 := q.1; have q2 := q.2; omega)⟩⟩
              · intro hc26
                change ¬ (x24 < k0) at hc26
                refine pw_ld E (pc' := 53) (st' := [.ref 16]) rfl (fun _ => rfl) ?_
                refine pw_getR (b := 32) h19I E (c := 0) (k := 7) (pc' := 56) rfl rfl rfl rfl rfl rfl rfl ?_
                refine pw_ld E (pc' := 57) (st' := [pw_i 1, .ref 32]) rfl (fun _ => rfl) ?_
                obtain ⟨f27l, f27h, -⟩ := pw_obj (c := 16) h19I rfl
                refine pw_call (m' := 84) (As := [.ref 32, pw_i 1]) (rest := []) (ls'' := [some (.ref 32), some (pw_i 1), none, none]) (Nat.le_trans (by decide) hd) E rfl (fun _ => pw_iV rfl rfl rfl rfl (pw_cellI f27h rfl)) (rfl : pm_ent 84 = some (2, 4, 8, 0, pmc_84)) rfl rfl (cm_84_s (pw_dp hd (by decide)) h19I (1) (by omega) (by omega)) ?_
                rintro u29 v28 ⟨rfl, x30, rfl, hx30a, hx30b, hx30r⟩
                refine ⟨_, rfl, ?_⟩
                show pw X d h19 178 60 [some (.ref 16), some (pw_i b), some (pw_i e), some (pw_i k0), some (pw_i wt), none] [pw_i x30] _
                change x30 = pv_N (pw_g h19 17) 1 24 at hx30r
                refine pw_ld E (pc' := 61) (st' := [pw_i k0, pw_i x30]) rfl (fun _ => rfl) ?_
                refine pw_if2 E (pc' := 72) rfl (by decide) (by omega) (by omega) (by omega) (by omega) ?_ ?_
                · intro hc31
                  change k0 ≤ x30 at hc31
                  refine pw_ld E (pc' := 74) (st' := [pw_i wt]) rfl (fun _ => rfl) ?_
                  refine pw_call (m' := 175) (As := [pw_i wt]) (rest := []) (ls'' := [some (pw_i wt)]) (Nat.le_trans (by decide) hd) E rfl (fun _ => pw_iS rfl rfl rfl) (rfl : pm_ent 175 = some (1, 1, 11, 1, pmc_175)) rfl rfl (cm_175_s (pw_dp hd (by decide)) h19I (wt) (by omega) (by omega)) ?_
                  rintro u33 v32 ⟨rfl, x34, rfl, hx34a, hx34b, hx34r⟩
                  refine ⟨_, rfl, ?_⟩
                  show pw X d h19 178 77 [some (.ref 16), some (pw_i b), some (pw_i e), some (pw_i k0), some (pw_i wt), none] [pw_i x34] _
                  change (x34 = 1 ∧ 2 ≤ wt) ∨ (x34 = 0 ∧ ¬ (2 ≤ wt)) at hx34r
                  have hz : x34 = pv_z wt := by have := pv_zI (wt := wt); omega
                  refine pw_ist E (pc' := 79) (ls' := [some (.ref 16), some (pw_i b), some (pw_i e), some (pw_i k0), some (pw_i wt), some (pw_i x34)]) rfl rfl rfl rfl ?_
                  refine pw_ld E (pc' := 80) (st' := [.ref 16]) rfl (fun _ => rfl) ?_
                  refine pw_getR (b := 38) h19I E (c := 0) (k := 8) (pc' := 83) rfl rfl rfl rfl rfl rfl rfl ?_
                  refine pw_ld E (pc' := 84) (st' := [.ref 16, .ref 38]) rfl (fun _ => rfl) ?_
                  refine pw_getR (b := 32) h19I E (c := 0) (k := 7) (pc' := 87) rfl rfl rfl rfl rfl rfl rfl ?_
                  refine pw_ld E (pc' := 88) (st' := [pw_i 0, .ref 32, .ref 38]) rfl (fun _ => rfl) ?_
                  refine pw_ld E (pc' := 89) (st' := [pw_i k0, pw_i 0, .ref 32, .ref 38]) rfl (fun _ => rfl) ?_
                  refine pw_ld E (pc' := 91) (st' := [pw_i x34, pw_i k0, pw_i 0, .ref 32, .ref 38]) rfl (fun _ => rfl) ?_
                  obtain ⟨f35l, f35h, -⟩ := pw_obj (c := 16) h19I rfl
                  refine pw_call (m' := 94) (As := [.ref 32, pw_i 0, pw_i k0, pw_i x34]) (rest := [.ref 38]) (ls'' := [some (.ref 32), some (pw_i 0), some (pw_i k0), some (pw_i x34), none, none, none, none]) (Nat.le_trans (by decide) hd) E rfl (fun _ => pw_iV rfl rfl rfl rfl (pw_cellI f35h rfl)) (rfl : pm_ent 94 = some (4, 8, 8, 2, pmc_94)) rfl rfl (cm_94_s (pw_dp hd (by decide)) h19I (0) (by omega) (by omega) (k0) (by omega) (by omega) (x34) (by omega) (by omega) hB (by omega)) ?_
                  rintro h36 v37 ⟨h36I, h36E, x38, rfl, hx38a, hx38b, hx38r⟩
                  refine ⟨_, rfl, ?_⟩
                  have h36F := h19F.tr (h36E.wk (W' := [17, 18, 19, 22]) (by first | rfl | simp))
                  show pw X d h36 178 94 [some (.ref 16), some (pw_i b), some (pw_i e), some (pw_i k0), some (pw_i wt), some (pw_i x34)] [.long (Int64.ofInt x38), .ref 38] _
                  change x38 = pc_K (pw_g h19 17) (pw_g h19 18) 0 x34 k0 at hx38r
                  have hs7 : pw_g h36 17 = pw_g h19 17 := funext (fun j => pw_Eg (c := 17) h19I h36E rfl rfl j)
                  have hs8 : pw_g h36 18 = pw_g h19 18 := funext (fun j => pw_Eg (c := 18) h19I h36E rfl rfl j)
                  have hB2 : pv_Bd h36 := by unfold pv_Bd; rw [hs7, hs8]; exact hB
                  have eN2 : pv_N (pw_g h36 17) 1 24 = pv_N (pw_g h19 17) 1 24 := by rw [hs7]
                  refine pw_ld E (pc' := 95) (st' := [.ref 16, .long (Int64.ofInt x38), .ref 38]) rfl (fun _ => rfl) ?_
                  refine pw_getR (b := 32) h36I E (c := 0) (k := 7) (pc' := 98) rfl rfl rfl rfl rfl rfl rfl ?_
                  refine pw_ld E (pc' := 99) (st' := [pw_i 1, .ref 32, .long (Int64.ofInt x38), .ref 38]) rfl (fun _ => rfl) ?_
                  refine pw_ld E (pc' := 100) (st' := [pw_i k0, pw_i 1, .ref 32, .long (Int64.ofInt x38), .ref 38]) rfl (fun _ => rfl) ?_
                  refine pw_ld E (pc' := 102) (st' := [pw_i x34, pw_i k0, pw_i 1, .ref 32, .long (Int64.ofInt x38), .ref 38]) rfl (fun _ => rfl) ?_
                  refine pw_if E (pc' := 109) rfl (by decide) (by omega) (by omega) ?_ ?_
                  · intro hc39
                    change x34 ≠ (0 : Int) at hc39
                    refine pw_ld E (pc' := 110) (st' := [pw_i 0, pw_i k0, pw_i 1, .ref 32, .long (Int64.ofInt x38), .ref 38]) rfl (fun _ => rfl) ?_
                    obtain ⟨f40l, f40h, -⟩ := pw_obj (c := 16) h36I rfl
                    refine pw_call (m' := 94) (As := [.ref 32, pw_i 1, pw_i k0, pw_i 0]) (rest := [.long (Int64.ofInt x38), .ref 38]) (ls'' := [some (.ref 32), some (pw_i 1), some (pw_i k0), some (pw_i 0), none, none, none, none]) (Nat.le_trans (by decide) hd) E rfl (fun _ => pw_iV rfl rfl rfl rfl (pw_cellI f40h rfl)) (rfl : pm_ent 94 = some (4, 8, 8, 2, pmc_94)) rfl rfl (cm_94_s (pw_dp hd (by decide)) h36I (1) (by omega) (by omega) (k0) (by omega) (by omega) (0) (by omega) (by omega) hB2 (by omega)) ?_
                    rintro h41 v42 ⟨h41I, h41E, x43, rfl, hx43a, hx43b, hx43r⟩
                    refine ⟨_, rfl, ?_⟩
                    have h41F := h36F.tr (h41E.wk (W' := [17, 18, 19, 22]) (by first | rfl | simp))
                    show pw X d h41 178 113 [some (.ref 16), some (pw_i b), some (pw_i e), some (pw_i k0), some (pw_i wt), some (pw_i x34)] [.long (Int64.ofInt x43), .long (Int64.ofInt x38), .ref 38] _
                    change x43 = pc_K (pw_g h36 17) (pw_g h36 18) 1 0 k0 at hx43r
                    refine pw_lsub E (pc' := 114) rfl rfl ?_
                    refine pw_ld E (pc' := 115) (st' := [pw_i k0, .long (Int64.ofInt (x38 - x43)), .ref 38]) rfl (fun _ => rfl) ?_
                    refine pw_i2l E (pc' := 116) rfl rfl (by omega) (by omega) ?_
                    obtain ⟨f44l, f44h, -⟩ := pw_obj (c := 22) h41I rfl
                    refine pw_call (m' := 6) (As := [.ref 38, .long (Int64.ofInt (x38 - x43)), .long (Int64.ofInt k0)]) (rest := []) (ls'' := [some (.ref 38), some (.long (Int64.ofInt (x38 - x43))), none, some (.long (Int64.ofInt k0)), none, none, none]) (Nat.le_trans (by decide) hd) E rfl (fun _ => pw_iV rfl rfl rfl rfl (pw_cellI f44h rfl)) (rfl : pm_ent 6 = some (3, 7, 1, 4, pmc_6)) rfl rfl (cm_6_22g (pw_dp hd (by decide)) h41I (x38 - x43) (by omega) (by omega) (k0) (by omega) (by omega)) ?_
                    rintro h45 v46 ⟨h45I, h45E, hqfr, rfl⟩
                    refine ⟨_, rfl, ?_⟩
                    have h45F := h41F.tr (h45E.wk (W' := [17, 18, 19, 22]) (by first | rfl | simp))
                    show pw X d h45 178 119 [some (.ref 16), some (pw_i b), some (pw_i e), some (pw_i k0), some (pw_i wt), some (pw_i x34)] [] _
                    have gp := pw_gd_pos (x := x38 - x43) (y := k0) (by omega)
                    have t1 := pw_tdB (a := x38 - x43) (b := pw_gd (x38 - x43) k0) (A := 48000) (by omega) (by omega) (by omega)
                    have t2 := pw_tdB (a := k0) (b := pw_gd (x38 - x43) k0) (A := 12) (by omega) (by omega) (by omega)
                    refine pw_ld E (pc' := 120) (st' := [.ref 16]) rfl (fun _ => rfl) ?_
                    refine pw_getR (b := 38) h45I E (c := 0) (k := 8) (pc' := 123) rfl rfl rfl rfl rfl rfl rfl ?_
                    refine pw_ld E (pc' := 125) (st' := [pw_i wt, .ref 38]) rfl (fun _ => rfl) ?_
                    refine pw_call (m' := 176) (As := [pw_i wt]) (rest := [.ref 38]) (ls'' := [some (pw_i wt)]) (Nat.le_trans (by decide) hd) E rfl (fun _ => pw_iS rfl rfl rfl) (rfl : pm_ent 176 = some (1, 1, 11, 0, pmc_176)) rfl rfl (cm_176_s (pw_dp hd (by decide)) h45I (wt) (by omega) (by omega)) ?_
                    rintro u48 v47 ⟨rfl, x49, rfl, hx49a, hx49b, hx49r⟩
                    refine ⟨_, rfl, ?_⟩
                    show pw X d h45 178 128 [some (.ref 16), some (pw_i b), some (pw_i e), some (pw_i k0), some (pw_i wt), some (pw_i x34)] [pw_i x49, .ref 38] _
                    change x49 = wt % 2 at hx49r
                    obtain ⟨f50l, f50h, -⟩ := pw_obj (c := 22) h45I rfl
                    refine pw_call (m' := 9) (As := [.ref 38, pw_i x49]) (rest := []) (ls'' := [some (.ref 38), some (pw_i x49)]) (Nat.le_trans (by decide) hd) E rfl (fun _ => pw_iV rfl rfl rfl rfl (pw_cellI f50h rfl)) (rfl : pm_ent 9 = some (2, 2, 1, 2, pmc_9)) rfl rfl (cm_9_22g (pw_dp hd (by decide)) h45I (x49) (by omega) (by omega) (by omega) (by omega) (by omega) (by omega)) ?_
                    rintro u52 v51 ⟨rfl, x53, rfl, hx53a, hx53b, hx53r⟩
                    refine ⟨_, rfl, ?_⟩
                    show pw X d h45 178 131 [some (.ref 16), some (pw_i b), some (pw_i e), some (pw_i k0), some (pw_i wt), some (pw_i x34)] [.long (Int64.ofInt x53)] _
                    change (x49 = 0 → x53 = pw_gm h45 22 0) ∧ (x49 ≠ 0 → x53 = pw_gm h45 22 1) at hx53r
                    refine pw_lret E rfl ?_
                    have hH : ∀ k : Nat, k < 24 → pw_g h19 17 k = pv_sdc h b e k ∧ (pw_g h19 17 k ≠ -1 → pw_g h19 18 k = pv_chc h b e k) := fun k hk => by
                      obtain ⟨z1, z2⟩ := (hqfill k hk).1 (by omega)
                      exact ⟨z1, fun z => z2 (by rw [← z1]; exact z)⟩
                    have hU : x38 - x43 = pc_U (pv_sdc h b e) (pv_chc h b e) (pv_z wt) k0 := by
                      rw [hx38r, hx43r, hs7, hs8, ← (pc_UC (z := pv_z wt) (k := k0) hH).1]
                      unfold pc_U
                      rw [← hz, show (1 : Int) - x34 = 0 by omega]
                    have hok : pc_OK (pv_sdc h b e) k0 := ⟨by omega, by omega⟩
                    rw [hU] at hqfr
                    have hp9 := pv_pick hqfr.1 hqfr.2 hx53r
                    rw [hx49r] at hp9
                    exact ⟨h45I, h45F, Or.inr ⟨_, rfl, by omega, by omega, by omega, hok, hp9⟩⟩
                  · intro hc54
                    change ¬ (x34 ≠ (0 : Int)) at hc54
                    refine pw_ld E (pc' := 106) (st' := [pw_i 1, pw_i k0, pw_i 1, .ref 32, .long (Int64.ofInt x38), .ref 38]) rfl (fun _ => rfl) ?_
                    refine pw_goto E (pc' := 110) rfl (by decide) ?_
                    obtain ⟨f55l, f55h, -⟩ := pw_obj (c := 16) h36I rfl
                    refine pw_call (m' := 94) (As := [.ref 32, pw_i 1, pw_i k0, pw_i 1]) (rest := [.long (Int64.ofInt x38), .ref 38]) (ls'' := [some (.ref 32), some (pw_i 1), some (pw_i k0), some (pw_i 1), none, none, none, none]) (Nat.le_trans (by decide) hd) E rfl (fun _ => pw_iV rfl rfl rfl rfl (pw_cellI f55h rfl)) (rfl : pm_ent 94 = some (4, 8, 8, 2, pmc_94)) rfl rfl (cm_94_s (pw_dp hd (by decide)) h36I (1) (by omega) (by omega) (k0) (by omega) (by omega) (1) (by omega) (by omega) hB2 (by omega)) ?_
                    rintro h56 v57 ⟨h56I, h56E, x58, rfl, hx58a, hx58b, hx58r⟩
                    refine ⟨_, rfl, ?_⟩
                    have h56F := h36F.tr (h56E.wk (W' := [17, 18, 19, 22]) (by first | rfl | simp))
                    show pw X d h56 178 113 [some (.ref 16), some (pw_i b), some (pw_i e), some (pw_i k0), some (pw_i wt), some (pw_i x34)] [.long (Int64.ofInt x58), .long (Int64.ofInt x38), .ref 38] _
                    change x58 = pc_K (pw_g h36 17) (pw_g h36 18) 1 1 k0 at hx58r
                    refine pw_lsub E (pc' := 114) rfl rfl ?_
                    refine pw_ld E (pc' := 115) (st' := [pw_i k0, .long (Int64.ofInt (x38 - x58)), .ref 38]) rfl (fun _ => rfl) ?_
                    refine pw_i2l E (pc' := 116) rfl rfl (by omega) (by omega) ?_
                    obtain ⟨f59l, f59h, -⟩ := pw_obj (c := 22) h56I rfl
                    refine pw_call (m' := 6) (As := [.ref 38, .long (Int64.ofInt (x38 - x58)), .long (Int64.ofInt k0)]) (rest := []) (ls'' := [some (.ref 38), some (.long (Int64.ofInt (x38 - x58))), none, some (.long (Int64.ofInt k0)), none, none, none]) (Nat.le_trans (by decide) hd) E rfl (fun _ => pw_iV rfl rfl rfl rfl (pw_cellI f59h rfl)) (rfl : pm_ent 6 = some (3, 7, 1, 4, pmc_6)) rfl rfl (cm_6_22g (pw_dp hd (by decide)) h56I (x38 - x58) (by omega) (by omega) (k0) (by omega) (by omega)) ?_
                    rintro h60 v61 ⟨h60I, h60E, hqfr, rfl⟩
                    refine ⟨_, rfl, ?_⟩
                    have h60F := h56F.tr (h60E.wk (W' := [17, 18, 19, 22]) (by first | rfl | simp))
                    show pw X d h60 178 119 [some (.ref 16), some (pw_i b), some (pw_i e), some (pw_i k0), some (pw_i wt), some (pw_i x34)] [] _
                    have gp := pw_gd_pos (x := x38 - x58) (y := k0) (by omega)
                    have t1 := pw_tdB (a := x38 - x58) (b := pw_gd (x38 - x58) k0) (A := 48000) (by omega) (by omega) (by omega)
                    have t2 := pw_tdB (a := k0) (b := pw_gd (x38 - x58) k0) (A := 12) (by omega) (by omega) (by omega)
                    refine pw_ld E (pc' := 120) (st' := [.ref 16]) rfl (fun _ => rfl) ?_
                    refine pw_getR (b := 38) h60I E (c := 0) (k := 8) (pc' := 123) rfl rfl rfl rfl rfl rfl rfl ?_
                    refine pw_ld E (pc' := 125) (st' := [pw_i wt, .ref 38]) rfl (fun _ => rfl) ?_
                    refine pw_call (m' := 176) (As := [pw_i wt]) (rest := [.ref 38]) (ls'' := [some (pw_i wt)]) (Nat.le_trans (by decide) hd) E rfl (fun _ => pw_iS rfl rfl rfl) (rfl : pm_ent 176 = some (1, 1, 11, 0, pmc_176)) rfl rfl (cm_176_s (pw_dp hd (by decide)) h60I (wt) (by omega) (by omega)) ?_
                    rintro u63 v62 ⟨rfl, x64, rfl, hx64a, hx64b, hx64r⟩
                    refine ⟨_, rfl, ?_⟩
                    show pw X d h60 178 128 [some (.ref 16), some (pw_i b), some (pw_i e), some (pw_i k0), some (pw_i wt), some (pw_i x34)] [pw_i x64, .ref 38] _
                    change x64 = wt % 2 at hx64r
                    obtain ⟨f65l, f65h, -⟩ := pw_obj (c := 22) h60I rfl
                    refine pw_call (m' := 9) (As := [.ref 38, pw_i x64]) (rest := []) (ls'' := [some (.ref 38), some (pw_i x64)]) (Nat.le_trans (by decide) hd) E rfl (fun _ => pw_iV rfl rfl rfl rfl (pw_cellI f65h rfl)) (rfl : pm_ent 9 = some (2, 2, 1, 2, pmc_9)) rfl rfl (cm_9_22g (pw_dp hd (by decide)) h60I (x64) (by omega) (by omega) (by omega) (by omega) (by omega) (by omega)) ?_
                    rintro u67 v66 ⟨rfl, x68, rfl, hx68a, hx68b, hx68r⟩
                    refine ⟨_, rfl, ?_⟩
                    show pw X d h60 178 131 [some (.ref 16), some (pw_i b), some (pw_i e), some (pw_i k0), some (pw_i wt), some (pw_i x34)] [.long (Int64.ofInt x68)] _
                    change (x64 = 0 → x68 = pw_gm h60 22 0) ∧ (x64 ≠ 0 → x68 = pw_gm h60 22 1) at hx68r
                    refine pw_lret E rfl ?_
                    have hH : ∀ k : Nat, k < 24 → pw_g h19 17 k = pv_sdc h b e k ∧ (pw_g h19 17 k ≠ -1 → pw_g h19 18 k = pv_chc h b e k) := fun k hk => by
                      obtain ⟨z1, z2⟩ := (hqfill k hk).1 (by omega)
                      exact ⟨z1, fun z => z2 (by rw [← z1]; exact z)⟩
                    have hU : x38 - x58 = pc_U (pv_sdc h b e) (pv_chc h b e) (pv_z wt) k0 := by
                      rw [hx38r, hx58r, hs7, hs8, ← (pc_UC (z := pv_z wt) (k := k0) hH).1]
                      unfold pc_U
                      rw [← hz, show (1 : Int) - x34 = 1 by omega]
                    have hok : pc_OK (pv_sdc h b e) k0 := ⟨by omega, by omega⟩
                    rw [hU] at hqfr
                    have hp9 := pv_pick hqfr.1 hqfr.2 hx68r
                    rw [hx64r] at hp9
                    exact ⟨h60I, h60F, Or.inr ⟨_, rfl, by omega, by omega, by omega, hok, hp9⟩⟩
                · intro hc69
                  change ¬ (k0 ≤ x30) at hc69
                  refine pw_thr E rfl rfl h19I.2 ?_
                  exact ⟨h19I, h19F, Or.inl ⟨rfl, Or.inr (fun q => by have q1 := q.1; have q2 := q.2; omega)⟩⟩
            · intro hc70
              change ¬ (x15 ≠ (0 : Int)) at hc70
              exfalso; omega
          · skip
            refine pw_if E (pc' := 34) rfl (by decide) (by omega) (by omega) ?_ ?_
            · intro hc72
              change x15 ≠ (0 : Int) at hc72
              exfalso; omega
            · intro hc73
              change ¬ (x15 ≠ (0 : Int)) at hc73
              refine pw_thr E rfl rfl I.2 ?_
              exact ⟨I, E0, Or.inl ⟨rfl, Or.inl (by omega)⟩⟩
      · skip
        refine pw_if E (pc' := 26) rfl (by decide) (by omega) (by omega) ?_ ?_
        · intro hc75
          change x9 = (0 : Int) at hc75
          refine pw_thr E rfl rfl I.2 ?_
          exact ⟨I, E0, Or.inl ⟨rfl, Or.inl (by omega)⟩⟩
        · intro hc76
          change ¬ (x9 = (0 : Int)) at hc76
          exfalso; omega
  · skip
    refine pw_if E (pc' := 26) rfl (by decide) (by omega) (by omega) ?_ ?_
    · intro hc78
      change x3 = (0 : Int) at hc78
      refine pw_thr E rfl rfl I.2 ?_
      exact ⟨I, E0, Or.inl ⟨rfl, Or.inl (by omega)⟩⟩
    · intro hc79
      change ¬ (x3 = (0 : Int)) at hc79
      exfalso; omega
end
