section
/-! the model's sums, exactly (printed by wip/tool/mmsum.py) -/
theorem pv_okD {n0 n1 a : Int} (h0 : 0 ≤ n0) (h1 : 0 ≤ n1) (r : (a = 1 ∧ 0 < n0 * n1) ∨ (a = 0 ∧ n0 * n1 ≤ 0)) : (a = 1 ∧ (1 ≤ n0 ∧ 1 ≤ n1)) ∨ (a = 0 ∧ ¬ (1 ≤ n0 ∧ 1 ≤ n1)) := by
  rcases r with ⟨r1, r2⟩ | ⟨r1, r2⟩
  · refine Or.inl ⟨r1, ?_⟩
    rcases (by omega : n0 = 0 ∨ n1 = 0 ∨ (1 ≤ n0 ∧ 1 ≤ n1)) with q | q | q
    · rw [q, Int.zero_mul] at r2; omega
    · rw [q, Int.mul_zero] at r2; omega
    · exact q
  · refine Or.inr ⟨r1, fun q => ?_⟩
    have := pw_mulB (a := n0) (b := n1) (A := n0) (B := n1) h0 (Int.le_refl _) h1 (Int.le_refl _)
    have := this.2.2 q.1 q.2
    omega
theorem pv_loI {sd : Nat → Int} {wo k : Int} (hk : 0 ≤ k) : (k = wo → pv_lo sd wo k.toNat = -1) ∧ (k ≠ wo → pv_lo sd wo k.toNat = sd k.toNat) := by
  unfold pv_lo
  rw [show ((k.toNat : Nat) : Int) = k by omega]
  exact ⟨fun q => if_pos q, fun q => if_neg q⟩
theorem pv_hmB {w g t : Int} (h1 : 0 ≤ w) (h2 : w ≤ 99) (h3 : 0 ≤ g) (h4 : g ≤ 99) (h5 : 0 ≤ t) (h6 : t ≤ 10) : 0 ≤ pw_hm w g t ∧ pw_hm w g t ≤ 2000 := by
  unfold pw_hm
  have := pw_mulB (a := t) (b := g) (A := 10) (B := 99) h5 h6 h3 h4
  omega
/-- the sides by calls, of the model -/
def pv_sdm (h : pm_H) (b e : Int) (k : Nat) : Int := if pw_g h 131 k ≠ 0 ∧ pw_g h 138 (12 * (k : Int) + b).toNat ≠ 0 ∧ pw_g h 138 (12 * (k : Int) + e).toNat ≠ 0 then pw_g h 132 k else -1
def pv_hmk (h : pm_H) (mo : Int) (k : Int) : Int := pw_hm (pw_g h 139 (12 * k + mo).toNat) (pw_g h 140 (12 * k + mo).toNat) (pw_g h 125 15)
def pv_chm (h : pm_H) (b e : Int) (k : Nat) : Int := pv_hmk h e k - pv_hmk h b k
theorem pv_sdmI {h : pm_H} {b e k : Int} (hk : 0 ≤ k) : ((pw_g h 131 k.toNat ≠ 0 ∧ pw_g h 138 (12 * k + b).toNat ≠ 0 ∧ pw_g h 138 (12 * k + e).toNat ≠ 0) → pv_sdm h b e k.toNat = pw_g h 132 k.toNat) ∧ (¬ (pw_g h 131 k.toNat ≠ 0 ∧ pw_g h 138 (12 * k + b).toNat ≠ 0 ∧ pw_g h 138 (12 * k + e).toNat ≠ 0) → pv_sdm h b e k.toNat = -1) := by
  unfold pv_sdm
  rw [show ((k.toNat : Nat) : Int) = k by omega]
  exact ⟨fun q => if_pos q, fun q => if_neg q⟩
theorem pv_chmI {h : pm_H} {b e k : Int} (hk : 0 ≤ k) : pv_chm h b e k.toNat = pv_hmk h e k - pv_hmk h b k := by
  unfold pv_chm
  rw [show ((k.toNat : Nat) : Int) = k by omega]
theorem pv_hmkB {h : pm_H} {mo k : Int} (I : pw_I h) (h0 : 0 ≤ mo) (h1 : mo ≤ 11) (h2 : 0 ≤ k) (h3 : k ≤ 23) : 0 ≤ pv_hmk h mo k ∧ pv_hmk h mo k ≤ 2000 := by
  have t := pw_gI (c := 125) (k := 15) I rfl rfl
  have v1 := pw_gA (c := 139) (j := 12 * k + mo) I rfl (by decide) (by omega) (by omega)
  have v2 := pw_gA (c := 140) (j := 12 * k + mo) I rfl (by decide) (by omega) (by omega)
  exact pv_hmB (by omega) (by omega) (by omega) (by omega) (by omega) (by omega)
theorem pv_chmB {h : pm_H} {b e : Int} (I : pw_I h) (hb0 : 0 ≤ b) (hb1 : b ≤ 11) (he0 : 0 ≤ e) (he1 : e ≤ 11) : ∀ k : Nat, k < 24 → -2000 ≤ pv_chm h b e k ∧ pv_chm h b e k ≤ 2000 := by
  intro k hk
  unfold pv_chm
  have w1 := pv_hmkB (k := k) I hb0 hb1 (by omega) (by omega)
  have w2 := pv_hmkB (k := k) I he0 he1 (by omega) (by omega)
  omega
set_option maxHeartbeats 4000000 in
theorem cm_131_s {X : List (Nat × List Value)} {d : Nat} {h : pm_H} (hd : 3 ≤ d) (I : pw_I h) (b : Int) (hb1 : (-2147483648) ≤ b) (hb2 : b ≤ 2147483647) (e : Int) (he1 : (-2147483648) ≤ e) (he2 : e ≤ 2147483647) : pw X d h 131 0 [some (pw_i b), some (pw_i e)] [] (fun h' v => h = h' ∧ ∃ a : Int, v = .inl (some (pw_i a)) ∧ 0 ≤ a ∧ a ≤ 1 ∧ ((a = 1 ∧ 0 ≤ b ∧ b ≤ 11 ∧ 0 ≤ e ∧ e ≤ 11 ∧ b ≠ e) ∨ (a = 0 ∧ ¬ (0 ≤ b ∧ b ≤ 11 ∧ 0 ≤ e ∧ e ≤ 11 ∧ b ≠ e)))) := by
  have E : pm_ent 131 = some (2, 2, 11, 1, pmc_131) := rfl
  refine pw_ld E (pc' := 1) (st' := [pw_i b]) rfl (fun _ => rfl) ?_
  refine pw_call (m' := 125) (As := [pw_i b]) (rest := []) (ls'' := [some (pw_i b)]) (Nat.le_trans (by decide) hd) E rfl (fun _ => pw_iS rfl rfl rfl) (rfl : pm_ent 125 = some (1, 1, 11, 1, pmc_125)) rfl rfl (cm_125 (pw_dp hd (by decide)) I (b) (by omega) (by omega)) ?_
  rintro u2 v1 ⟨rfl, x3, rfl, hx3a, hx3b, hx3r⟩
  refine ⟨_, rfl, ?_⟩
  show pw X d h 131 4 [some (pw_i b), some (pw_i e)] [pw_i x3] _
  change (x3 = 1 ∧ 0 ≤ b ∧ b ≤ 11) ∨ (x3 = 0 ∧ ¬ (0 ≤ b ∧ b ≤ 11)) at hx3r
  rcases (by omega : x3 = 1 ∨ x3 = 0) with hb4 | hb4
  · skip
    refine pw_if E (pc' := 23) rfl (by decide) (by omega) (by omega) ?_ ?_
    · intro hc5
      change x3 = (0 : Int) at hc5
      exfalso; omega
    · intro hc6
      change ¬ (x3 = (0 : Int)) at hc6
      refine pw_ld E (pc' := 8) (st' := [pw_i e]) rfl (fun _ => rfl) ?_
      refine pw_call (m' := 125) (As := [pw_i e]) (rest := []) (ls'' := [some (pw_i e)]) (Nat.le_trans (by decide) hd) E rfl (fun _ => pw_iS rfl rfl rfl) (rfl : pm_ent 125 = some (1, 1, 11, 1, pmc_125)) rfl rfl (cm_125 (pw_dp hd (by decide)) I (e) (by omega) (by omega)) ?_
      rintro u8 v7 ⟨rfl, x9, rfl, hx9a, hx9b, hx9r⟩
      refine ⟨_, rfl, ?_⟩
      show pw X d h 131 11 [some (pw_i b), some (pw_i e)] [pw_i x9] _
      change (x9 = 1 ∧ 0 ≤ e ∧ e ≤ 11) ∨ (x9 = 0 ∧ ¬ (0 ≤ e ∧ e ≤ 11)) at hx9r
      rcases (by omega : x9 = 1 ∨ x9 = 0) with hb10 | hb10
      · skip
        refine pw_if E (pc' := 23) rfl (by decide) (by omega) (by omega) ?_ ?_
        · intro hc11
          change x9 = (0 : Int) at hc11
          exfalso; omega
        · intro hc12
          change ¬ (x9 = (0 : Int)) at hc12
          refine pw_ld E (pc' := 15) (st' := [pw_i b]) rfl (fun _ => rfl) ?_
          refine pw_ld E (pc' := 16) (st' := [pw_i e, pw_i b]) rfl (fun _ => rfl) ?_
          refine pw_if2 E (pc' := 23) rfl (by decide) (by omega) (by omega) (by omega) (by omega) ?_ ?_
          · intro hc13
            change b = e at hc13
            refine pw_ld E (pc' := 24) (st' := [pw_i 0]) rfl (fun _ => rfl) ?_
            refine pw_zret E rfl (by omega) ?_
            exact ⟨rfl, ⟨_, rfl, by omega, by omega, by omega⟩⟩
          · intro hc14
            change ¬ (b = e) at hc14
            refine pw_ld E (pc' := 20) (st' := [pw_i 1]) rfl (fun _ => rfl) ?_
            refine pw_goto E (pc' := 24) rfl (by decide) ?_
            refine pw_zret E rfl (by omega) ?_
            exact ⟨rfl, ⟨_, rfl, by omega, by omega, by omega⟩⟩
      · skip
        refine pw_if E (pc' := 23) rfl (by decide) (by omega) (by omega) ?_ ?_
        · intro hc16
          change x9 = (0 : Int) at hc16
          refine pw_ld E (pc' := 24) (st' := [pw_i 0]) rfl (fun _ => rfl) ?_
          refine pw_zret E rfl (by omega) ?_
          exact ⟨rfl, ⟨_, rfl, by omega, by omega, by omega⟩⟩
        · intro hc17
          change ¬ (x9 = (0 : Int)) at hc17
          exfalso; omega
  · skip
    refine pw_if E (pc' := 23) rfl (by decide) (by omega) (by omega) ?_ ?_
    · intro hc19
      change x3 = (0 : Int) at hc19
      refine pw_ld E (pc' := 24) (st' := [pw_i 0]) rfl (fun _ => rfl) ?_
      refine pw_zret E rfl (by omega) ?_
      exact ⟨rfl, ⟨_, rfl, by omega, by omega, by omega⟩⟩
    · intro hc20
      change ¬ (x3 = (0 : Int)) at hc20
      exfalso; omega
set_option maxHeartbeats 4000000 in
theorem cm_213_s {X : List (Nat × List Value)} {d : Nat} {h : pm_H} (hd : 3 ≤ d) (I : pw_I h) (b : Int) (hb1 : (-2147483648) ≤ b) (hb2 : b ≤ 2147483647) (e : Int) (he1 : (-2147483648) ≤ e) (he2 : e ≤ 2147483647) : pw X d h 213 0 [some (pw_i b), some (pw_i e)] [] (fun h' v => h = h' ∧ ∃ a : Int, v = .inl (some (pw_i a)) ∧ 0 ≤ a ∧ a ≤ 1 ∧ ((a = 1 ∧ 0 ≤ b ∧ b ≤ 11 ∧ 0 ≤ e ∧ e ≤ 11 ∧ b ≠ e) ∨ (a = 0 ∧ ¬ (0 ≤ b ∧ b ≤ 11 ∧ 0 ≤ e ∧ e ≤ 11 ∧ b ≠ e)))) := by
  have E : pm_ent 213 = some (2, 2, 12, 1, pmc_213) := rfl
  refine pw_ld E (pc' := 1) (st' := [pw_i b]) rfl (fun _ => rfl) ?_
  refine pw_call (m' := 205) (As := [pw_i b]) (rest := []) (ls'' := [some (pw_i b)]) (Nat.le_trans (by decide) hd) E rfl (fun _ => pw_iS rfl rfl rfl) (rfl : pm_ent 205 = some (1, 1, 12, 1, pmc_205)) rfl rfl (cm_205 (pw_dp hd (by decide)) I (b) (by omega) (by omega)) ?_
  rintro u2 v1 ⟨rfl, x3, rfl, hx3a, hx3b, hx3r⟩
  refine ⟨_, rfl, ?_⟩
  show pw X d h 213 4 [some (pw_i b), some (pw_i e)] [pw_i x3] _
  change (x3 = 1 ∧ 0 ≤ b ∧ b ≤ 11) ∨ (x3 = 0 ∧ ¬ (0 ≤ b ∧ b ≤ 11)) at hx3r
  rcases (by omega : x3 = 1 ∨ x3 = 0) with hb4 | hb4
  · skip
    refine pw_if E (pc' := 23) rfl (by decide) (by omega) (by omega) ?_ ?_
    · intro hc5
      change x3 = (0 : Int) at hc5
      exfalso; omega
    · intro hc6
      change ¬ (x3 = (0 : Int)) at hc6
      refine pw_ld E (pc' := 8) (st' := [pw_i e]) rfl (fun _ => rfl) ?_
      refine pw_call (m' := 205) (As := [pw_i e]) (rest := []) (ls'' := [some (pw_i e)]) (Nat.le_trans (by decide) hd) E rfl (fun _ => pw_iS rfl rfl rfl) (rfl : pm_ent 205 = some (1, 1, 12, 1, pmc_205)) rfl rfl (cm_205 (pw_dp hd (by decide)) I (e) (by omega) (by omega)) ?_
      rintro u8 v7 ⟨rfl, x9, rfl, hx9a, hx9b, hx9r⟩
      refine ⟨_, rfl, ?_⟩
      show pw X d h 213 11 [some (pw_i b), some (pw_i e)] [pw_i x9] _
      change (x9 = 1 ∧ 0 ≤ e ∧ e ≤ 11) ∨ (x9 = 0 ∧ ¬ (0 ≤ e ∧ e ≤ 11)) at hx9r
      rcases (by omega : x9 = 1 ∨ x9 = 0) with hb10 | hb10
      · skip
        refine pw_if E (pc' := 23) rfl (by decide) (by omega) (by omega) ?_ ?_
        · intro hc11
          change x9 = (0 : Int) at hc11
          exfalso; omega
        · intro hc12
          change ¬ (x9 = (0 : Int)) at hc12
          refine pw_ld E (pc' := 15) (st' := [pw_i b]) rfl (fun _ => rfl) ?_
          refine pw_ld E (pc' := 16) (st' := [pw_i e, pw_i b]) rfl (fun _ => rfl) ?_
          refine pw_if2 E (pc' := 23) rfl (by decide) (by omega) (by omega) (by omega) (by omega) ?_ ?_
          · intro hc13
            change b = e at hc13
            refine pw_ld E (pc' := 24) (st' := [pw_i 0]) rfl (fun _ => rfl) ?_
            refine pw_zret E rfl (by omega) ?_
            exact ⟨rfl, ⟨_, rfl, by omega, by omega, by omega⟩⟩
          · intro hc14
            change ¬ (b = e) at hc14
            refine pw_ld E (pc' := 20) (st' := [pw_i 1]) rfl (fun _ => rfl) ?_
            refine pw_goto E (pc' := 24) rfl (by decide) ?_
            refine pw_zret E rfl (by omega) ?_
            exact ⟨rfl, ⟨_, rfl, by omega, by omega, by omega⟩⟩
      · skip
        refine pw_if E (pc' := 23) rfl (by decide) (by omega) (by omega) ?_ ?_
        · intro hc16
          change x9 = (0 : Int) at hc16
          refine pw_ld E (pc' := 24) (st' := [pw_i 0]) rfl (fun _ => rfl) ?_
          refine pw_zret E rfl (by omega) ?_
          exact ⟨rfl, ⟨_, rfl, by omega, by omega, by omega⟩⟩
        · intro hc17
          change ¬ (x9 = (0 : Int)) at hc17
          exfalso; omega
  · skip
    refine pw_if E (pc' := 23) rfl (by decide) (by omega) (by omega) ?_ ?_
    · intro hc19
      change x3 = (0 : Int) at hc19
      refine pw_ld E (pc' := 24) (st' := [pw_i 0]) rfl (fun _ => rfl) ?_
      refine pw_zret E rfl (by omega) ?_
      exact ⟨rfl, ⟨_, rfl, by omega, by omega, by omega⟩⟩
    · intro hc20
      change ¬ (x3 = (0 : Int)) at hc20
      exfalso; omega
set_option maxHeartbeats 4000000 in
theorem cm_214_s {X : List (Nat × List Value)} {d : Nat} {h : pm_H} (hd : 1 ≤ d) (I : pw_I h) (k : Int) (hk1 : 0 ≤ k) (hk2 : k ≤ 23) (b : Int) (hb1 : 0 ≤ b) (hb2 : b ≤ 11) (e : Int) (he1 : 0 ≤ e) (he2 : e ≤ 11) : pw X d h 214 0 [some (.ref 141), some (pw_i k), some (pw_i b), some (pw_i e)] [] (fun h' v => h = h' ∧ ∃ a : Int, v = .inl (some (pw_i a)) ∧ 0 ≤ a ∧ a ≤ 1 ∧ ((a = 1 ∧ pw_g h 131 k.toNat ≠ 0 ∧ pw_g h 138 (12 * k + b).toNat ≠ 0 ∧ pw_g h 138 (12 * k + e).toNat ≠ 0) ∨ (a = 0 ∧ ¬ (pw_g h 131 k.toNat ≠ 0 ∧ pw_g h 138 (12 * k + b).toNat ≠ 0 ∧ pw_g h 138 (12 * k + e).toNat ≠ 0)))) := by
  have E : pm_ent 214 = some (4, 4, 12, 1, pmc_214) := rfl
  refine pw_ld E (pc' := 1) (st' := [.ref 141]) rfl (fun _ => rfl) ?_
  refine pw_getR (b := 147) I E (c := 125) (k := 10) (pc' := 4) rfl rfl rfl rfl rfl rfl rfl ?_
  refine pw_ld E (pc' := 5) (st' := [pw_i k, .ref 147]) rfl (fun _ => rfl) ?_
  refine pw_ald2 I E (c := 131) (pc' := 6) rfl rfl rfl (by decide) rfl (by decide) (by omega) (by omega) rfl (fun hf1a hf1b => ?_)
  refine pw_if E (pc' := 41) rfl (by decide) (by omega) (by omega) ?_ ?_
  · intro hc2
    change pw_g h 131 (k.toNat) = (0 : Int) at hc2
    refine pw_ld E (pc' := 42) (st' := [pw_i 0]) rfl (fun _ => rfl) ?_
    refine pw_zret E rfl (by omega) ?_
    exact ⟨rfl, ⟨_, rfl, by omega, by omega, by omega⟩⟩
  · intro hc3
    change ¬ (pw_g h 131 (k.toNat) = (0 : Int)) at hc3
    refine pw_ld E (pc' := 10) (st' := [.ref 141]) rfl (fun _ => rfl) ?_
    refine pw_getR (b := 154) I E (c := 125) (k := 18) (pc' := 13) rfl rfl rfl rfl rfl rfl rfl ?_
    refine pw_bip E (pc' := 15) rfl rfl (by decide) ?_
    refine pw_ld E (pc' := 16) (st' := [pw_i k, pw_i 12, .ref 154]) rfl (fun _ => rfl) ?_
    refine pw_mul E (pc' := 17) rfl rfl ?_
    refine pw_ld E (pc' := 18) (st' := [pw_i b, pw_i (12 * k), .ref 154]) rfl (fun _ => rfl) ?_
    refine pw_add E (pc' := 19) rfl rfl ?_
    refine pw_ald2 I E (c := 138) (pc' := 20) rfl rfl rfl (by decide) rfl (by decide) (by omega) (by omega) rfl (fun hf4a hf4b => ?_)
    refine pw_if E (pc' := 41) rfl (by decide) (by omega) (by omega) ?_ ?_
    · intro hc5
      change pw_g h 138 (((12 * k) + b).toNat) = (0 : Int) at hc5
      refine pw_ld E (pc' := 42) (st' := [pw_i 0]) rfl (fun _ => rfl) ?_
      refine pw_zret E rfl (by omega) ?_
      exact ⟨rfl, ⟨_, rfl, by omega, by omega, by omega⟩⟩
    · intro hc6
      change ¬ (pw_g h 138 (((12 * k) + b).toNat) = (0 : Int)) at hc6
      refine pw_ld E (pc' := 24) (st' := [.ref 141]) rfl (fun _ => rfl) ?_
      refine pw_getR (b := 154) I E (c := 125) (k := 18) (pc' := 27) rfl rfl rfl rfl rfl rfl rfl ?_
      refine pw_bip E (pc' := 29) rfl rfl (by decide) ?_
      refine pw_ld E (pc' := 30) (st' := [pw_i k, pw_i 12, .ref 154]) rfl (fun _ => rfl) ?_
      refine pw_mul E (pc' := 31) rfl rfl ?_
      refine pw_ld E (pc' := 32) (st' := [pw_i e, pw_i (12 * k), .ref 154]) rfl (fun _ => rfl) ?_
      refine pw_add E (pc' := 33) rfl rfl ?_
      refine pw_ald2 I E (c := 138) (pc' := 34) rfl rfl rfl (by decide) rfl (by decide) (by omega) (by omega) rfl (fun hf7a hf7b => ?_)
      refine pw_if E (pc' := 41) rfl (by decide) (by omega) (by omega) ?_ ?_
      · intro hc8
        change pw_g h 138 (((12 * k) + e).toNat) = (0 : Int) at hc8
        refine pw_ld E (pc' := 42) (st' := [pw_i 0]) rfl (fun _ => rfl) ?_
        refine pw_zret E rfl (by omega) ?_
        exact ⟨rfl, ⟨_, rfl, by omega, by omega, by omega⟩⟩
      · intro hc9
        change ¬ (pw_g h 138 (((12 * k) + e).toNat) = (0 : Int)) at hc9
        refine pw_ld E (pc' := 38) (st' := [pw_i 1]) rfl (fun _ => rfl) ?_
        refine pw_goto E (pc' := 42) rfl (by decide) ?_
        refine pw_zret E rfl (by omega) ?_
        exact ⟨rfl, ⟨_, rfl, by omega, by omega, by omega⟩⟩
set_option maxHeartbeats 4000000 in
theorem cm_215_s {X : List (Nat × List Value)} {d : Nat} {h : pm_H} (hd : 3 ≤ d) (I : pw_I h) (k : Int) (hk1 : 0 ≤ k) (hk2 : k ≤ 23) (b : Int) (hb1 : 0 ≤ b) (hb2 : b ≤ 11) (e : Int) (he1 : 0 ≤ e) (he2 : e ≤ 11) : pw X d h 215 0 [some (.ref 141), some (pw_i k), some (pw_i b), some (pw_i e)] [] (fun h' v => h = h' ∧ ∃ a : Int, v = .inl (some (pw_i a)) ∧ (-2000) ≤ a ∧ a ≤ 2000 ∧ (a = pv_hmk h e k - pv_hmk h b k)) := by
  have E : pm_ent 215 = some (4, 4, 12, 0, pmc_215) := rfl
  refine pw_ld E (pc' := 1) (st' := [.ref 141]) rfl (fun _ => rfl) ?_
  refine pw_ld E (pc' := 2) (st' := [pw_i k, .ref 141]) rfl (fun _ => rfl) ?_
  refine pw_ld E (pc' := 3) (st' := [pw_i e, pw_i k, .ref 141]) rfl (fun _ => rfl) ?_
  obtain ⟨f1l, f1h, -⟩ := pw_obj (c := 125) I rfl
  refine pw_call (m' := 210) (As := [.ref 141, pw_i k, pw_i e]) (rest := []) (ls'' := [some (.ref 141), some (pw_i k), some (pw_i e)]) (Nat.le_trans (by decide) hd) E rfl (fun _ => pw_iV rfl rfl rfl rfl (pw_cellI f1h rfl)) (rfl : pm_ent 210 = some (3, 3, 12, 0, pmc_210)) rfl rfl (cm_210_h (pw_dp hd (by decide)) I (k) (by omega) (by omega) (e) (by omega) (by omega)) ?_
  rintro u3 v2 ⟨rfl, x4, rfl, hx4a, hx4b, hx4r⟩
  refine ⟨_, rfl, ?_⟩
  show pw X d h 215 6 [some (.ref 141), some (pw_i k), some (pw_i b), some (pw_i e)] [pw_i x4] _
  change x4 = 10 * pw_g h 139 (12 * k + e).toNat + pw_g h 125 15 * pw_g h 140 (12 * k + e).toNat at hx4r
  refine pw_ld E (pc' := 7) (st' := [.ref 141, pw_i x4]) rfl (fun _ => rfl) ?_
  refine pw_ld E (pc' := 8) (st' := [pw_i k, .ref 141, pw_i x4]) rfl (fun _ => rfl) ?_
  refine pw_ld E (pc' := 9) (st' := [pw_i b, pw_i k, .ref 141, pw_i x4]) rfl (fun _ => rfl) ?_
  obtain ⟨f5l, f5h, -⟩ := pw_obj (c := 125) I rfl
  refine pw_call (m' := 210) (As := [.ref 141, pw_i k, pw_i b]) (rest := [pw_i x4]) (ls'' := [some (.ref 141), some (pw_i k), some (pw_i b)]) (Nat.le_trans (by decide) hd) E rfl (fun _ => pw_iV rfl rfl rfl rfl (pw_cellI f5h rfl)) (rfl : pm_ent 210 = some (3, 3, 12, 0, pmc_210)) rfl rfl (cm_210_h (pw_dp hd (by decide)) I (k) (by omega) (by omega) (b) (by omega) (by omega)) ?_
  rintro u7 v6 ⟨rfl, x8, rfl, hx8a, hx8b, hx8r⟩
  refine ⟨_, rfl, ?_⟩
  show pw X d h 215 12 [some (.ref 141), some (pw_i k), some (pw_i b), some (pw_i e)] [pw_i x8, pw_i x4] _
  change x8 = 10 * pw_g h 139 (12 * k + b).toNat + pw_g h 125 15 * pw_g h 140 (12 * k + b).toNat at hx8r
  refine pw_sub E (pc' := 13) rfl rfl ?_
  refine pw_iret E rfl ?_
  exact ⟨rfl, ⟨_, rfl, by omega, by omega, by rw [hx4r, hx8r]; rfl⟩⟩
set_option maxHeartbeats 4000000 in
theorem cm_219_s {X : List (Nat × List Value)} {d : Nat} {h : pm_H} (hd : 1 ≤ d) (I : pw_I h)  : pw X d h 219 0 [some (.ref 141)] [] (fun h' v => pw_I h' ∧ pw_E [125] h h' ∧ (pw_gm h' 125 26 = 0 ∧ pw_gm h' 125 27 = 0 ∧ pw_gm h' 125 28 = 0 ∧ pw_gm h' 125 29 = 0) ∧ (v = .inl none)) := by
  have E : pm_ent 219 = some (1, 1, 12, 4, pmc_219) := rfl
  have E0 : pw_E [125] h h := pw_E.rf _ _
  refine pw_ld E (pc' := 1) (st' := [.ref 141]) rfl (fun _ => rfl) ?_
  refine pw_ld E (pc' := 2) (st' := [.long (Int64.ofInt 0), .ref 141]) rfl (fun _ => rfl) ?_
  refine pw_putL I E (c := 125) (k := 26) (pc' := 5) rfl rfl rfl rfl rfl rfl ?_
  intro h1I h1E
  generalize h1w : pw_w h 125 26 (.long (Int64.ofInt 0)) = h1 at h1I h1E ⊢
  have h1F := E0.tr (h1E.wk (W' := [125]) (by first | rfl | simp))
  refine pw_ld E (pc' := 6) (st' := [.ref 141]) rfl (fun _ => rfl) ?_
  refine pw_ld E (pc' := 7) (st' := [.long (Int64.ofInt 0), .ref 141]) rfl (fun _ => rfl) ?_
  refine pw_putM h1I E (c := 125) (k := 27) (pc' := 10) rfl rfl rfl rfl (by omega) (by omega) (by omega) (by omega) rfl rfl ?_
  intro h2I h2E
  generalize h2w : pw_w h1 125 27 (.long (Int64.ofInt 0)) = h2 at h2I h2E ⊢
  have h2F := h1F.tr (h2E.wk (W' := [125]) (by first | rfl | simp))
  refine pw_ld E (pc' := 11) (st' := [.ref 141]) rfl (fun _ => rfl) ?_
  refine pw_ld E (pc' := 12) (st' := [.long (Int64.ofInt 0), .ref 141]) rfl (fun _ => rfl) ?_
  refine pw_putL h2I E (c := 125) (k := 28) (pc' := 15) rfl rfl rfl rfl rfl rfl ?_
  intro h3I h3E
  generalize h3w : pw_w h2 125 28 (.long (Int64.ofInt 0)) = h3 at h3I h3E ⊢
  have h3F := h2F.tr (h3E.wk (W' := [125]) (by first | rfl | simp))
  refine pw_ld E (pc' := 16) (st' := [.ref 141]) rfl (fun _ => rfl) ?_
  refine pw_ld E (pc' := 17) (st' := [.long (Int64.ofInt 0), .ref 141]) rfl (fun _ => rfl) ?_
  refine pw_putM h3I E (c := 125) (k := 29) (pc' := 20) rfl rfl rfl rfl (by omega) (by omega) (by omega) (by omega) rfl rfl ?_
  intro h4I h4E
  generalize h4w : pw_w h3 125 29 (.long (Int64.ofInt 0)) = h4 at h4I h4E ⊢
  have h4F := h3F.tr (h4E.wk (W' := [125]) (by first | rfl | simp))
  have he5 : pw_gm h4 125 26 = pw_gm h3 125 26 := by rw [← h4w]; exact pw_gm_ne (by omega)
  have he6 : pw_gm h3 125 26 = pw_gm h2 125 26 := by rw [← h3w]; exact pw_gm_ne (by omega)
  have he7 : pw_gm h2 125 26 = pw_gm h1 125 26 := by rw [← h2w]; exact pw_gm_ne (by omega)
  have he8 : pw_gm h1 125 26 = 0 := by rw [← h1w]; exact pw_gm_eq (c := 125) (k := 26) I rfl rfl (by omega) (by omega)
  have he9 : pw_gm h4 125 27 = pw_gm h3 125 27 := by rw [← h4w]; exact pw_gm_ne (by omega)
  have he10 : pw_gm h3 125 27 = pw_gm h2 125 27 := by rw [← h3w]; exact pw_gm_ne (by omega)
  have he11 : pw_gm h2 125 27 = 0 := by rw [← h2w]; exact pw_gm_eq (c := 125) (k := 27) h1I rfl rfl (by omega) (by omega)
  have he12 : pw_gm h4 125 28 = pw_gm h3 125 28 := by rw [← h4w]; exact pw_gm_ne (by omega)
  have he13 : pw_gm h3 125 28 = 0 := by rw [← h3w]; exact pw_gm_eq (c := 125) (k := 28) h2I rfl rfl (by omega) (by omega)
  have he14 : pw_gm h4 125 29 = 0 := by rw [← h4w]; exact pw_gm_eq (c := 125) (k := 29) h3I rfl rfl (by omega) (by omega)
  refine pw_vret E rfl ?_
  exact ⟨h4I, h4F, ⟨by omega, rfl⟩⟩
set_option maxHeartbeats 4000000 in
theorem cm_220_s {X : List (Nat × List Value)} {d : Nat} {h : pm_H} (hd : 1 ≤ d) (I : pw_I h) (z : Int) (hz1 : 0 ≤ z) (hz2 : z ≤ 1) (ch : Int) (hch1 : (-2000) ≤ ch) (hch2 : ch ≤ 2000) (hp0 : pw_gm h 125 27 + pw_gm h 125 29 ≤ 23) (hp1 : 0 ≤ pw_gm h 125 27) (hp2 : 0 ≤ pw_gm h 125 29) (hp3 : (-48000) ≤ pw_gm h 125 26) (hp4 : pw_gm h 125 26 ≤ 48000) (hp5 : (-48000) ≤ pw_gm h 125 28) (hp6 : pw_gm h 125 28 ≤ 48000) : pw X d h 220 0 [some (.ref 141), some (pw_i z), some (.long (Int64.ofInt ch)), none] [] (fun h' v => pw_I h' ∧ pw_E [125] h h' ∧ ((z = 1 → pw_gm h' 125 26 = pw_gm h 125 26 + ch ∧ pw_gm h' 125 27 = pw_gm h 125 27 + 1 ∧ pw_gm h' 125 28 = pw_gm h 125 28 ∧ pw_gm h' 125 29 = pw_gm h 125 29) ∧ (z = 0 → pw_gm h' 125 26 = pw_gm h 125 26 ∧ pw_gm h' 125 27 = pw_gm h 125 27 ∧ pw_gm h' 125 28 = pw_gm h 125 28 + ch ∧ pw_gm h' 125 29 = pw_gm h 125 29 + 1)) ∧ (v = .inl none)) := by
  have E : pm_ent 220 = some (3, 4, 12, 4, pmc_220) := rfl
  have E0 : pw_E [125] h h := pw_E.rf _ _
  refine pw_ld E (pc' := 1) (st' := [.ref 141]) rfl (fun _ => rfl) ?_
  refine pw_ld E (pc' := 2) (st' := [.ref 141, .ref 141]) rfl (fun _ => rfl) ?_
  refine pw_getLM I E (c := 125) (k := 26) (pc' := 5) rfl rfl rfl rfl rfl rfl ?_
  refine pw_ld E (pc' := 6) (st' := [pw_i z, .long (Int64.ofInt (pw_gm h 125 26)), .ref 141]) rfl (fun _ => rfl) ?_
  refine pw_if E (pc' := 13) rfl (by decide) (by omega) (by omega) ?_ ?_
  · intro hc1
    change z = (0 : Int) at hc1
    refine pw_ld E (pc' := 14) (st' := [.long (Int64.ofInt 0), .long (Int64.ofInt (pw_gm h 125 26)), .ref 141]) rfl (fun _ => rfl) ?_
    refine pw_ladd E (pc' := 15) rfl rfl ?_
    refine pw_putL I E (c := 125) (k := 26) (pc' := 18) rfl rfl rfl rfl rfl rfl ?_
    intro h2I h2E
    generalize h2w : pw_w h 125 26 (.long (Int64.ofInt ((pw_gm h 125 26) + 0))) = h2 at h2I h2E ⊢
    have h2F := E0.tr (h2E.wk (W' := [125]) (by first | rfl | simp))
    refine pw_ld E (pc' := 19) (st' := [.ref 141]) rfl (fun _ => rfl) ?_
    refine pw_ld E (pc' := 20) (st' := [.ref 141, .ref 141]) rfl (fun _ => rfl) ?_
    have he4 : pw_gm h2 125 27 = pw_gm h 125 27 := by rw [← h2w]; exact pw_gm_ne (by omega)
    refine pw_getM h2I E (c := 125) (k := 27) (pc' := 23) rfl rfl rfl rfl rfl rfl (fun hf3a hf3b => ?_)
    refine pw_ld E (pc' := 24) (st' := [pw_i z, .long (Int64.ofInt (pw_gm h2 125 27)), .ref 141]) rfl (fun _ => rfl) ?_
    refine pw_if E (pc' := 31) rfl (by decide) (by omega) (by omega) ?_ ?_
    · intro hc5
      change z = (0 : Int) at hc5
      refine pw_ld E (pc' := 32) (st' := [.long (Int64.ofInt 0), .long (Int64.ofInt (pw_gm h2 125 27)), .ref 141]) rfl (fun _ => rfl) ?_
      refine pw_ladd E (pc' := 33) rfl rfl ?_
      refine pw_putM h2I E (c := 125) (k := 27) (pc' := 36) rfl rfl rfl rfl (by omega) (by omega) (by omega) (by omega) rfl rfl ?_
      intro h6I h6E
      generalize h6w : pw_w h2 125 27 (.long (Int64.ofInt ((pw_gm h2 125 27) + 0))) = h6 at h6I h6E ⊢
      have h6F := h2F.tr (h6E.wk (W' := [125]) (by first | rfl | simp))
      refine pw_ld E (pc' := 37) (st' := [.ref 141]) rfl (fun _ => rfl) ?_
      refine pw_ld E (pc' := 38) (st' := [.ref 141, .ref 141]) rfl (fun _ => rfl) ?_
      have he7 : pw_gm h6 125 28 = pw_gm h2 125 28 := by rw [← h6w]; exact pw_gm_ne (by omega)
      have he8 : pw_gm h2 125 28 = pw_gm h 125 28 := by rw [← h2w]; exact pw_gm_ne (by omega)
      refine pw_getLM h6I E (c := 125) (k := 28) (pc' := 41) rfl rfl rfl rfl rfl rfl ?_
      refine pw_ld E (pc' := 42) (st' := [pw_i z, .long (Int64.ofInt (pw_gm h6 125 28)), .ref 141]) rfl (fun _ => rfl) ?_
      refine pw_if E (pc' := 49) rfl (by decide) (by omega) (by omega) ?_ ?_
      · intro hc9
        change z = (0 : Int) at hc9
        refine pw_ld E (pc' := 50) (st' := [.long (Int64.ofInt ch), .long (Int64.ofInt (pw_gm h6 125 28)), .ref 141]) rfl (fun _ => rfl) ?_
        refine pw_ladd E (pc' := 51) rfl rfl ?_
        refine pw_putL h6I E (c := 125) (k := 28) (pc' := 54) rfl rfl rfl rfl rfl rfl ?_
        intro h10I h10E
        generalize h10w : pw_w h6 125 28 (.long (Int64.ofInt ((pw_gm h6 125 28) + ch))) = h10 at h10I h10E ⊢
        have h10F := h6F.tr (h10E.wk (W' := [125]) (by first | rfl | simp))
        refine pw_ld E (pc' := 55) (st' := [.ref 141]) rfl (fun _ => rfl) ?_
        refine pw_ld E (pc' := 56) (st' := [.ref 141, .ref 141]) rfl (fun _ => rfl) ?_
        have he12 : pw_gm h10 125 29 = pw_gm h6 125 29 := by rw [← h10w]; exact pw_gm_ne (by omega)
        have he13 : pw_gm h6 125 29 = pw_gm h2 125 29 := by rw [← h6w]; exact pw_gm_ne (by omega)
        have he14 : pw_gm h2 125 29 = pw_gm h 125 29 := by rw [← h2w]; exact pw_gm_ne (by omega)
        refine pw_getM h10I E (c := 125) (k := 29) (pc' := 59) rfl rfl rfl rfl rfl rfl (fun hf11a hf11b => ?_)
        refine pw_ld E (pc' := 60) (st' := [pw_i z, .long (Int64.ofInt (pw_gm h10 125 29)), .ref 141]) rfl (fun _ => rfl) ?_
        refine pw_if E (pc' := 67) rfl (by decide) (by omega) (by omega) ?_ ?_
        · intro hc15
          change z = (0 : Int) at hc15
          refine pw_ld E (pc' := 68) (st' := [.long (Int64.ofInt 1), .long (Int64.ofInt (pw_gm h10 125 29)), .ref 141]) rfl (fun _ => rfl) ?_
          refine pw_ladd E (pc' := 69) rfl rfl ?_
          refine pw_putM h10I E (c := 125) (k := 29) (pc' := 72) rfl rfl rfl rfl (by omega) (by omega) (by omega) (by omega) rfl rfl ?_
          intro h16I h16E
          generalize h16w : pw_w h10 125 29 (.long (Int64.ofInt ((pw_gm h10 125 29) + 1))) = h16 at h16I h16E ⊢
          have h16F := h10F.tr (h16E.wk (W' := [125]) (by first | rfl | simp))
          have he17 : pw_gm h16 125 26 = pw_gm h10 125 26 := by rw [← h16w]; exact pw_gm_ne (by omega)
          have he18 : pw_gm h10 125 26 = pw_gm h6 125 26 := by rw [← h10w]; exact pw_gm_ne (by omega)
          have he19 : pw_gm h6 125 26 = pw_gm h2 125 26 := by rw [← h6w]; exact pw_gm_ne (by omega)
          have he20 : pw_gm h2 125 26 = (pw_gm h 125 26) + 0 := by rw [← h2w]; exact pw_gm_eq (c := 125) (k := 26) I rfl rfl (by omega) (by omega)
          have he21 : pw_gm h16 125 27 = pw_gm h10 125 27 := by rw [← h16w]; exact pw_gm_ne (by omega)
          have he22 : pw_gm h10 125 27 = pw_gm h6 125 27 := by rw [← h10w]; exact pw_gm_ne (by omega)
          have he23 : pw_gm h6 125 27 = (pw_gm h2 125 27) + 0 := by rw [← h6w]; exact pw_gm_eq (c := 125) (k := 27) h2I rfl rfl (by omega) (by omega)
          have he24 : pw_gm h16 125 28 = pw_gm h10 125 28 := by rw [← h16w]; exact pw_gm_ne (by omega)
          have he25 : pw_gm h10 125 28 = (pw_gm h6 125 28) + ch := by rw [← h10w]; exact pw_gm_eq (c := 125) (k := 28) h6I rfl rfl (by omega) (by omega)
          have he26 : pw_gm h16 125 29 = (pw_gm h10 125 29) + 1 := by rw [← h16w]; exact pw_gm_eq (c := 125) (k := 29) h10I rfl rfl (by omega) (by omega)
          refine pw_vret E rfl ?_
          exact ⟨h16I, h16F, ⟨⟨fun _ => by omega, fun _ => by omega⟩, rfl⟩⟩
        · intro hc27
          change ¬ (z = (0 : Int)) at hc27
          exfalso; omega
      · intro hc28
        change ¬ (z = (0 : Int)) at hc28
        exfalso; omega
    · intro hc29
      change ¬ (z = (0 : Int)) at hc29
      exfalso; omega
  · intro hc30
    change ¬ (z = (0 : Int)) at hc30
    refine pw_ld E (pc' := 10) (st' := [.long (Int64.ofInt ch), .long (Int64.ofInt (pw_gm h 125 26)), .ref 141]) rfl (fun _ => rfl) ?_
    refine pw_goto E (pc' := 14) rfl (by decide) ?_
    refine pw_ladd E (pc' := 15) rfl rfl ?_
    refine pw_putL I E (c := 125) (k := 26) (pc' := 18) rfl rfl rfl rfl rfl rfl ?_
    intro h31I h31E
    generalize h31w : pw_w h 125 26 (.long (Int64.ofInt ((pw_gm h 125 26) + ch))) = h31 at h31I h31E ⊢
    have h31F := E0.tr (h31E.wk (W' := [125]) (by first | rfl | simp))
    refine pw_ld E (pc' := 19) (st' := [.ref 141]) rfl (fun _ => rfl) ?_
    refine pw_ld E (pc' := 20) (st' := [.ref 141, .ref 141]) rfl (fun _ => rfl) ?_
    have he33 : pw_gm h31 125 27 = pw_gm h 125 27 := by rw [← h31w]; exact pw_gm_ne (by omega)
    refine pw_getM h31I E (c := 125) (k := 27) (pc' := 23) rfl rfl rfl rfl rfl rfl (fun hf32a hf32b => ?_)
    refine pw_ld E (pc' := 24) (st' := [pw_i z, .long (Int64.ofInt (pw_gm h31 125 27)), .ref 141]) rfl (fun _ => rfl) ?_
    refine pw_if E (pc' := 31) rfl (by decide) (by omega) (by omega) ?_ ?_
    · intro hc34
      change z = (0 : Int) at hc34
      exfalso; omega
    · intro hc35
      change ¬ (z = (0 : Int)) at hc35
      refine pw_ld E (pc' := 28) (st' := [.long (Int64.ofInt 1), .long (Int64.ofInt (pw_gm h31 125 27)), .ref 141]) rfl (fun _ => rfl) ?_
      refine pw_goto E (pc' := 32) rfl (by decide) ?_
      refine pw_ladd E (pc' := 33) rfl rfl ?_
      refine pw_putM h31I E (c := 125) (k := 27) (pc' := 36) rfl rfl rfl rfl (by omega) (by omega) (by omega) (by omega) rfl rfl ?_
      intro h36I h36E
      generalize h36w : pw_w h31 125 27 (.long (Int64.ofInt ((pw_gm h31 125 27) + 1))) = h36 at h36I h36E ⊢
      have h36F := h31F.tr (h36E.wk (W' := [125]) (by first | rfl | simp))
      refine pw_ld E (pc' := 37) (st' := [.ref 141]) rfl (fun _ => rfl) ?_
      refine pw_ld E (pc' := 38) (st' := [.ref 141, .ref 141]) rfl (fun _ => rfl) ?_
      have he37 : pw_gm h36 125 28 = pw_gm h31 125 28 := by rw [← h36w]; exact pw_gm_ne (by omega)
      have he38 : pw_gm h31 125 28 = pw_gm h 125 28 := by rw [← h31w]; exact pw_gm_ne (by omega)
      refine pw_getLM h36I E (c := 125) (k := 28) (pc' := 41) rfl rfl rfl rfl rfl rfl ?_
      refine pw_ld E (pc' := 42) (st' := [pw_i z, .long (Int64.ofInt (pw_gm h36 125 28)), .ref 141]) rfl (fun _ => rfl) ?_
      refine pw_if E (pc' := 49) rfl (by decide) (by omega) (by omega) ?_ ?_
      · intro hc39
        change z = (0 : Int) at hc39
        exfalso; omega
      · intro hc40
        change ¬ (z = (0 : Int)) at hc40
        refine pw_ld E (pc' := 46) (st' := [.long (Int64.ofInt 0), .long (Int64.ofInt (pw_gm h36 125 28)), .ref 141]) rfl (fun _ => rfl) ?_
        refine pw_goto E (pc' := 50) rfl (by decide) ?_
        refine pw_ladd E (pc' := 51) rfl rfl ?_
        refine pw_putL h36I E (c := 125) (k := 28) (pc' := 54) rfl rfl rfl rfl rfl rfl ?_
        intro h41I h41E
        generalize h41w : pw_w h36 125 28 (.long (Int64.ofInt ((pw_gm h36 125 28) + 0))) = h41 at h41I h41E ⊢
        have h41F := h36F.tr (h41E.wk (W' := [125]) (by first | rfl | simp))
        refine pw_ld E (pc' := 55) (st' := [.ref 141]) rfl (fun _ => rfl) ?_
        refine pw_ld E (pc' := 56) (st' := [.ref 141, .ref 141]) rfl (fun _ => rfl) ?_
        have he43 : pw_gm h41 125 29 = pw_gm h36 125 29 := by rw [← h41w]; exact pw_gm_ne (by omega)
        have he44 : pw_gm h36 125 29 = pw_gm h31 125 29 := by rw [← h36w]; exact pw_gm_ne (by omega)
        have he45 : pw_gm h31 125 29 = pw_gm h 125 29 := by rw [← h31w]; exact pw_gm_ne (by omega)
        refine pw_getM h41I E (c := 125) (k := 29) (pc' := 59) rfl rfl rfl rfl rfl rfl (fun hf42a hf42b => ?_)
        refine pw_ld E (pc' := 60) (st' := [pw_i z, .long (Int64.ofInt (pw_gm h41 125 29)), .ref 141]) rfl (fun _ => rfl) ?_
        refine pw_if E (pc' := 67) rfl (by decide) (by omega) (by omega) ?_ ?_
        · intro hc46
          change z = (0 : Int) at hc46
          exfalso; omega
        · intro hc47
          change ¬ (z = (0 : Int)) at hc47
          refine pw_ld E (pc' := 64) (st' := [.long (Int64.ofInt 0), .long (Int64.ofInt (pw_gm h41 125 29)), .ref 141]) rfl (fun _ => rfl) ?_
          refine pw_goto E (pc' := 68) rfl (by decide) ?_
          refine pw_ladd E (pc' := 69) rfl rfl ?_
          refine pw_putM h41I E (c := 125) (k := 29) (pc' := 72) rfl rfl rfl rfl (by omega) (by omega) (by omega) (by omega) rfl rfl ?_
          intro h48I h48E
          generalize h48w : pw_w h41 125 29 (.long (Int64.ofInt ((pw_gm h41 125 29) + 0))) = h48 at h48I h48E ⊢
          have h48F := h41F.tr (h48E.wk (W' := [125]) (by first | rfl | simp))
          have he49 : pw_gm h48 125 26 = pw_gm h41 125 26 := by rw [← h48w]; exact pw_gm_ne (by omega)
          have he50 : pw_gm h41 125 26 = pw_gm h36 125 26 := by rw [← h41w]; exact pw_gm_ne (by omega)
          have he51 : pw_gm h36 125 26 = pw_gm h31 125 26 := by rw [← h36w]; exact pw_gm_ne (by omega)
          have he52 : pw_gm h31 125 26 = (pw_gm h 125 26) + ch := by rw [← h31w]; exact pw_gm_eq (c := 125) (k := 26) I rfl rfl (by omega) (by omega)
          have he53 : pw_gm h48 125 27 = pw_gm h41 125 27 := by rw [← h48w]; exact pw_gm_ne (by omega)
          have he54 : pw_gm h41 125 27 = pw_gm h36 125 27 := by rw [← h41w]; exact pw_gm_ne (by omega)
          have he55 : pw_gm h36 125 27 = (pw_gm h31 125 27) + 1 := by rw [← h36w]; exact pw_gm_eq (c := 125) (k := 27) h31I rfl rfl (by omega) (by omega)
          have he56 : pw_gm h48 125 28 = pw_gm h41 125 28 := by rw [← h48w]; exact pw_gm_ne (by omega)
          have he57 : pw_gm h41 125 28 = (pw_gm h36 125 28) + 0 := by rw [← h41w]; exact pw_gm_eq (c := 125) (k := 28) h36I rfl rfl (by omega) (by omega)
          have he58 : pw_gm h48 125 29 = (pw_gm h41 125 29) + 0 := by rw [← h48w]; exact pw_gm_eq (c := 125) (k := 29) h41I rfl rfl (by omega) (by omega)
          refine pw_vret E rfl ?_
          exact ⟨h48I, h48F, ⟨⟨fun _ => by omega, fun _ => by omega⟩, rfl⟩⟩
set_option maxHeartbeats 4000000 in
theorem cm_221_s {X : List (Nat × List Value)} {d : Nat} {h : pm_H} (hd : 1 ≤ d) (I : pw_I h) (hp0 : 0 ≤ pw_gm h 125 27) (hp1 : pw_gm h 125 27 ≤ 24) (hp2 : 0 ≤ pw_gm h 125 29) (hp3 : pw_gm h 125 29 ≤ 24) (hp4 : (-48000) ≤ pw_gm h 125 26) (hp5 : pw_gm h 125 26 ≤ 48000) (hp6 : (-48000) ≤ pw_gm h 125 28) (hp7 : pw_gm h 125 28 ≤ 48000) : pw X d h 221 0 [some (.ref 141)] [] (fun h' v => pw_I h' ∧ pw_E [125] h h' ∧ ∃ a : Int, v = .inl (some (pw_i a)) ∧ 0 ≤ a ∧ a ≤ 1 ∧ (((a = 1 ∧ 0 < pw_gm h 125 27 * pw_gm h 125 29) ∨ (a = 0 ∧ pw_gm h 125 27 * pw_gm h 125 29 ≤ 0)) ∧ pw_gm h' 125 24 = pw_gm h 125 26 * pw_gm h 125 29 - pw_gm h 125 28 * pw_gm h 125 27 ∧ pw_gm h' 125 25 = pw_gm h 125 27 * pw_gm h 125 29 ∧ pw_gm h' 125 26 = pw_gm h 125 26 ∧ pw_gm h' 125 27 = pw_gm h 125 27 ∧ pw_gm h' 125 28 = pw_gm h 125 28 ∧ pw_gm h' 125 29 = pw_gm h 125 29)) := by
  have E : pm_ent 221 = some (1, 1, 12, 1, pmc_221) := rfl
  have E0 : pw_E [125] h h := pw_E.rf _ _
  refine pw_ld E (pc' := 1) (st' := [.ref 141]) rfl (fun _ => rfl) ?_
  refine pw_ld E (pc' := 2) (st' := [.ref 141, .ref 141]) rfl (fun _ => rfl) ?_
  refine pw_getLM I E (c := 125) (k := 26) (pc' := 5) rfl rfl rfl rfl rfl rfl ?_
  refine pw_ld E (pc' := 6) (st' := [.ref 141, .long (Int64.ofInt (pw_gm h 125 26)), .ref 141]) rfl (fun _ => rfl) ?_
  refine pw_getM I E (c := 125) (k := 29) (pc' := 9) rfl rfl rfl rfl rfl rfl (fun hf1a hf1b => ?_)
  have hm2 := pw_mulS (a := pw_gm h 125 26) (b := pw_gm h 125 29) (A := 48000) (B := 24) (by omega) (by omega) (by omega) (by omega)
  refine pw_lmul E (pc' := 10) rfl rfl ?_
  refine pw_ld E (pc' := 11) (st' := [.ref 141, .long (Int64.ofInt ((pw_gm h 125 26) * (pw_gm h 125 29))), .ref 141]) rfl (fun _ => rfl) ?_
  refine pw_getLM I E (c := 125) (k := 28) (pc' := 14) rfl rfl rfl rfl rfl rfl ?_
  refine pw_ld E (pc' := 15) (st' := [.ref 141, .long (Int64.ofInt (pw_gm h 125 28)), .long (Int64.ofInt ((pw_gm h 125 26) * (pw_gm h 125 29))), .ref 141]) rfl (fun _ => rfl) ?_
  refine pw_getM I E (c := 125) (k := 27) (pc' := 18) rfl rfl rfl rfl rfl rfl (fun hf3a hf3b => ?_)
  have hm4 := pw_mulS (a := pw_gm h 125 28) (b := pw_gm h 125 27) (A := 48000) (B := 24) (by omega) (by omega) (by omega) (by omega)
  refine pw_lmul E (pc' := 19) rfl rfl ?_
  refine pw_lsub E (pc' := 20) rfl rfl ?_
  refine pw_putL I E (c := 125) (k := 24) (pc' := 23) rfl rfl rfl rfl rfl rfl ?_
  intro h5I h5E
  generalize h5w : pw_w h 125 24 (.long (Int64.ofInt (((pw_gm h 125 26) * (pw_gm h 125 29)) - ((pw_gm h 125 28) * (pw_gm h 125 27))))) = h5 at h5I h5E ⊢
  have h5F := E0.tr (h5E.wk (W' := [125]) (by first | rfl | simp))
  refine pw_ld E (pc' := 24) (st' := [.ref 141]) rfl (fun _ => rfl) ?_
  refine pw_ld E (pc' := 25) (st' := [.ref 141, .ref 141]) rfl (fun _ => rfl) ?_
  have he7 : pw_gm h5 125 27 = pw_gm h 125 27 := by rw [← h5w]; exact pw_gm_ne (by omega)
  refine pw_getM h5I E (c := 125) (k := 27) (pc' := 28) rfl rfl rfl rfl rfl rfl (fun hf6a hf6b => ?_)
  refine pw_ld E (pc' := 29) (st' := [.ref 141, .long (Int64.ofInt (pw_gm h5 125 27)), .ref 141]) rfl (fun _ => rfl) ?_
  have he9 : pw_gm h5 125 29 = pw_gm h 125 29 := by rw [← h5w]; exact pw_gm_ne (by omega)
  refine pw_getM h5I E (c := 125) (k := 29) (pc' := 32) rfl rfl rfl rfl rfl rfl (fun hf8a hf8b => ?_)
  have hm10 := pw_mulB (a := pw_gm h5 125 27) (b := pw_gm h5 125 29) (A := 24) (B := 24) (by omega) (by omega) (by omega) (by omega)
  refine pw_lmul E (pc' := 33) rfl rfl ?_
  have eD : (pw_gm h5 125 27) * (pw_gm h5 125 29) = pw_gm h 125 27 * pw_gm h 125 29 := by rw [show pw_gm h5 125 27 = pw_gm h 125 27 by omega, show pw_gm h5 125 29 = pw_gm h 125 29 by omega]
  refine pw_putM h5I E (c := 125) (k := 25) (pc' := 36) rfl rfl rfl rfl (by omega) (by omega) (by omega) (by omega) rfl rfl ?_
  intro h11I h11E
  generalize h11w : pw_w h5 125 25 (.long (Int64.ofInt ((pw_gm h5 125 27) * (pw_gm h5 125 29)))) = h11 at h11I h11E ⊢
  have h11F := h5F.tr (h11E.wk (W' := [125]) (by first | rfl | simp))
  refine pw_ld E (pc' := 37) (st' := [.ref 141]) rfl (fun _ => rfl) ?_
  have he13 : pw_gm h11 125 25 = (pw_gm h5 125 27) * (pw_gm h5 125 29) := by rw [← h11w]; exact pw_gm_eq (c := 125) (k := 25) h5I rfl rfl (by omega) (by omega)
  refine pw_getM h11I E (c := 125) (k := 25) (pc' := 40) rfl rfl rfl rfl rfl rfl (fun hf12a hf12b => ?_)
  refine pw_ld E (pc' := 41) (st' := [.long (Int64.ofInt 0), .long (Int64.ofInt (pw_gm h11 125 25))]) rfl (fun _ => rfl) ?_
  refine pw_lcmpC E (pc' := 42) rfl rfl (by omega) (by omega) (by omega) (by omega) (fun c14 hc14 => ?_)
  refine pw_if E (pc' := 49) rfl (by decide) (by omega) (by omega) ?_ ?_
  · intro hc15
    change c14 ≤ (0 : Int) at hc15
    refine pw_ld E (pc' := 50) (st' := [pw_i 0]) rfl (fun _ => rfl) ?_
    have he16 : pw_gm h11 125 24 = pw_gm h5 125 24 := by rw [← h11w]; exact pw_gm_ne (by omega)
    have he17 : pw_gm h5 125 24 = ((pw_gm h 125 26) * (pw_gm h 125 29)) - ((pw_gm h 125 28) * (pw_gm h 125 27)) := by rw [← h5w]; exact pw_gm_eq (c := 125) (k := 24) I rfl rfl (by omega) (by omega)
    have he18 : pw_gm h11 125 26 = pw_gm h5 125 26 := by rw [← h11w]; exact pw_gm_ne (by omega)
    have he19 : pw_gm h5 125 26 = pw_gm h 125 26 := by rw [← h5w]; exact pw_gm_ne (by omega)
    have he20 : pw_gm h11 125 27 = pw_gm h5 125 27 := by rw [← h11w]; exact pw_gm_ne (by omega)
    have he21 : pw_gm h11 125 28 = pw_gm h5 125 28 := by rw [← h11w]; exact pw_gm_ne (by omega)
    have he22 : pw_gm h5 125 28 = pw_gm h 125 28 := by rw [← h5w]; exact pw_gm_ne (by omega)
    have he23 : pw_gm h11 125 29 = pw_gm h5 125 29 := by rw [← h11w]; exact pw_gm_ne (by omega)
    refine pw_zret E rfl (by omega) ?_
    exact ⟨h11I, h11F, ⟨_, rfl, by omega, by omega, by omega, by omega, by omega, by omega, by omega, by omega, by omega⟩⟩
  · intro hc24
    change ¬ (c14 ≤ (0 : Int)) at hc24
    refine pw_ld E (pc' := 46) (st' := [pw_i 1]) rfl (fun _ => rfl) ?_
    refine pw_goto E (pc' := 50) rfl (by decide) ?_
    have he25 : pw_gm h11 125 24 = pw_gm h5 125 24 := by rw [← h11w]; exact pw_gm_ne (by omega)
    have he26 : pw_gm h5 125 24 = ((pw_gm h 125 26) * (pw_gm h 125 29)) - ((pw_gm h 125 28) * (pw_gm h 125 27)) := by rw [← h5w]; exact pw_gm_eq (c := 125) (k := 24) I rfl rfl (by omega) (by omega)
    have he27 : pw_gm h11 125 26 = pw_gm h5 125 26 := by rw [← h11w]; exact pw_gm_ne (by omega)
    have he28 : pw_gm h5 125 26 = pw_gm h 125 26 := by rw [← h5w]; exact pw_gm_ne (by omega)
    have he29 : pw_gm h11 125 27 = pw_gm h5 125 27 := by rw [← h11w]; exact pw_gm_ne (by omega)
    have he30 : pw_gm h11 125 28 = pw_gm h5 125 28 := by rw [← h11w]; exact pw_gm_ne (by omega)
    have he31 : pw_gm h5 125 28 = pw_gm h 125 28 := by rw [← h5w]; exact pw_gm_ne (by omega)
    have he32 : pw_gm h11 125 29 = pw_gm h5 125 29 := by rw [← h11w]; exact pw_gm_ne (by omega)
    refine pw_zret E rfl (by omega) ?_
    exact ⟨h11I, h11F, ⟨_, rfl, by omega, by omega, by omega, by omega, by omega, by omega, by omega, by omega, by omega⟩⟩
set_option maxHeartbeats 4000000 in
theorem cm_218_s {X : List (Nat × List Value)} {d : Nat} {h : pm_H} (hd : 4 ≤ d) (I : pw_I h) (b : Int) (hb1 : 0 ≤ b) (hb2 : b ≤ 11) (e : Int) (he1 : 0 ≤ e) (he2 : e ≤ 11) (wo : Int) (hwo1 : (-2147483648) ≤ wo) (hwo2 : wo ≤ 2147483647) : pw X d h 218 0 [some (.ref 141), some (pw_i b), some (pw_i e), some (pw_i wo), none] [] (fun h' v => pw_I h' ∧ pw_E [125] h h' ∧ ∃ a : Int, v = .inl (some (pw_i a)) ∧ 0 ≤ a ∧ a ≤ 1 ∧ (((a = 1 ∧ pv_OK (pv_lo (pv_sdm h b e) wo)) ∨ (a = 0 ∧ ¬ pv_OK (pv_lo (pv_sdm h b e) wo))) ∧ pw_gm h' 125 24 = pv_U (pv_lo (pv_sdm h b e) wo) (pv_chm h b e) ∧ pw_gm h' 125 25 = pv_D (pv_lo (pv_sdm h b e) wo) ∧ pw_gm h' 125 26 = pv_S (pv_lo (pv_sdm h b e) wo) (pv_chm h b e) 0 24 ∧ pw_gm h' 125 27 = pv_N (pv_lo (pv_sdm h b e) wo) 0 24 ∧ pw_gm h' 125 28 = pv_S (pv_lo (pv_sdm h b e) wo) (pv_chm h b e) 1 24 ∧ pw_gm h' 125 29 = pv_N (pv_lo (pv_sdm h b e) wo) 1 24)) := by
  have E : pm_ent 218 = some (4, 5, 12, 1, pmc_218) := rfl
  have E0 : pw_E [125] h h := pw_E.rf _ _
  refine pw_ld E (pc' := 1) (st' := [.ref 141]) rfl (fun _ => rfl) ?_
  obtain ⟨f1l, f1h, -⟩ := pw_obj (c := 125) I rfl
  refine pw_call (m' := 219) (As := [.ref 141]) (rest := []) (ls'' := [some (.ref 141)]) (Nat.le_trans (by decide) hd) E rfl (fun _ => pw_iV rfl rfl rfl rfl (pw_cellI f1h rfl)) (rfl : pm_ent 219 = some (1, 1, 12, 4, pmc_219)) rfl rfl (cm_219_s (pw_dp hd (by decide)) I ) ?_
  rintro h2 v3 ⟨h2I, h2E, hqbeg, rfl⟩
  refine ⟨_, rfl, ?_⟩
  have h2F := E0.tr (h2E.wk (W' := [125]) (by first | rfl | simp))
  show pw X d h2 218 4 [some (.ref 141), some (pw_i b), some (pw_i e), some (pw_i wo), none] [] _
  refine pw_ld E (pc' := 5) (st' := [pw_i 0]) rfl (fun _ => rfl) ?_
  refine pw_ist E (pc' := 7) (ls' := [some (.ref 141), some (pw_i b), some (pw_i e), some (pw_i wo), some (pw_i 0)]) rfl rfl rfl rfl ?_
  have L7 : ∀ (n7 : Nat) (k7_4 : Int) (gh7 : pm_H), pw_I gh7 → pw_E [125] h gh7 → 0 ≤ k7_4 → k7_4 ≤ 24 → pw_gm gh7 125 26 = pv_S (pv_lo (pv_sdm h b e) wo) (pv_chm h b e) 0 (k7_4).toNat → pw_gm gh7 125 27 = pv_N (pv_lo (pv_sdm h b e) wo) 0 (k7_4).toNat → pw_gm gh7 125 28 = pv_S (pv_lo (pv_sdm h b e) wo) (pv_chm h b e) 1 (k7_4).toNat → pw_gm gh7 125 29 = pv_N (pv_lo (pv_sdm h b e) wo) 1 (k7_4).toNat → pw_gm gh7 125 27 + pw_gm gh7 125 29 ≤ k7_4 → 0 ≤ pw_gm gh7 125 27 → 0 ≤ pw_gm gh7 125 29 → (-2000) * k7_4 ≤ pw_gm gh7 125 26 → pw_gm gh7 125 26 ≤ 2000 * k7_4 → (-2000) * k7_4 ≤ pw_gm gh7 125 28 → pw_gm gh7 125 28 ≤ 2000 * k7_4 → (24 - k7_4).toNat = n7 → pw X d gh7 218 7 [some (.ref 141), some (pw_i b), some (pw_i e), some (pw_i wo), some (pw_i k7_4)] [] (fun h' v => pw_I h' ∧ pw_E [125] h h' ∧ ∃ a : Int, v = .inl (some (pw_i a)) ∧ 0 ≤ a ∧ a ≤ 1 ∧ (((a = 1 ∧ pv_OK (pv_lo (pv_sdm h b e) wo)) ∨ (a = 0 ∧ ¬ pv_OK (pv_lo (pv_sdm h b e) wo))) ∧ pw_gm h' 125 24 = pv_U (pv_lo (pv_sdm h b e) wo) (pv_chm h b e) ∧ pw_gm h' 125 25 = pv_D (pv_lo (pv_sdm h b e) wo) ∧ pw_gm h' 125 26 = pv_S (pv_lo (pv_sdm h b e) wo) (pv_chm h b e) 0 24 ∧ pw_gm h' 125 27 = pv_N (pv_lo (pv_sdm h b e) wo) 0 24 ∧ pw_gm h' 125 28 = pv_S (pv_lo (pv_sdm h b e) wo) (pv_chm h b e) 1 24 ∧ pw_gm h' 125 29 = pv_N (pv_lo (pv_sdm h b e) wo) 1 24)) := by
    intro n7
    induction n7 using Nat.strongRecOn with
    | ind n7 ih7 =>
      intro k7_4 gh7 I7 E7 k7_4a k7_4b hx7_0 hx7_1 hx7_2 hx7_3 hx7_4 hx7_5 hx7_6 hx7_7 hx7_8 hx7_9 hx7_10 hm7
      refine pw_ld E (pc' := 9) (st' := [pw_i k7_4]) rfl (fun _ => rfl) ?_
      refine pw_bip E (pc' := 11) rfl rfl (by decide) ?_
      refine pw_if2 E (pc' := 65) rfl (by decide) (by omega) (by omega) (by decide) (by decide) ?_ ?_
      · intro hc4
        change (24 : Int) ≤ k7_4 at hc4
        rw [show (k7_4).toNat = 24 by omega] at hx7_0 hx7_1 hx7_2 hx7_3
        refine pw_ld E (pc' := 66) (st' := [.ref 141]) rfl (fun _ => rfl) ?_
        obtain ⟨f5l, f5h, -⟩ := pw_obj (c := 125) I7 rfl
        refine pw_call (m' := 221) (As := [.ref 141]) (rest := []) (ls'' := [some (.ref 141)]) (Nat.le_trans (by decide) hd) E rfl (fun _ => pw_iV rfl rfl rfl rfl (pw_cellI f5h rfl)) (rfl : pm_ent 221 = some (1, 1, 12, 1, pmc_221)) rfl rfl (cm_221_s (pw_dp hd (by decide)) I7 (by omega) (by omega) (by omega) (by omega) (by omega) (by omega) (by omega) (by omega)) ?_
        rintro h6 v7 ⟨h6I, h6E, x8, rfl, hx8a, hx8b, hx8r⟩
        refine ⟨_, rfl, ?_⟩
        have h6F := E7.tr (h6E.wk (W' := [125]) (by first | rfl | simp))
        show pw X d h6 218 69 [some (.ref 141), some (pw_i b), some (pw_i e), some (pw_i wo), some (pw_i k7_4)] [pw_i x8] _
        change ((x8 = 1 ∧ 0 < pw_gm gh7 125 27 * pw_gm gh7 125 29) ∨ (x8 = 0 ∧ pw_gm gh7 125 27 * pw_gm gh7 125 29 ≤ 0)) ∧ pw_gm h6 125 24 = pw_gm gh7 125 26 * pw_gm gh7 125 29 - pw_gm gh7 125 28 * pw_gm gh7 125 27 ∧ pw_gm h6 125 25 = pw_gm gh7 125 27 * pw_gm gh7 125 29 ∧ pw_gm h6 125 26 = pw_gm gh7 125 26 ∧ pw_gm h6 125 27 = pw_gm gh7 125 27 ∧ pw_gm h6 125 28 = pw_gm gh7 125 28 ∧ pw_gm h6 125 29 = pw_gm gh7 125 29 at hx8r
        refine pw_zret E rfl (by omega) ?_
        rw [hx7_0, hx7_1, hx7_2, hx7_3] at hx8r
        obtain ⟨r1, r2, r3, r4, r5, r6, r7⟩ := hx8r
        exact ⟨h6I, h6F, ⟨_, rfl, by omega, by omega, pv_okD (pv_NB 24).1 (pv_NB 24).1 r1, r2, r3, r4, r5, r6, r7⟩⟩
      · intro hc9
        change ¬ ((24 : Int) ≤ k7_4) at hc9
        have oo := pv_loI (sd := pv_sdm h b e) (wo := wo) (k := k7_4) (by omega)
        have od := pv_sdmI (h := h) (b := b) (e := e) (k := k7_4) (by omega)
        have q1 : pw_g gh7 131 (k7_4).toNat = pw_g h 131 (k7_4).toNat := pw_Eg (c := 131) I E7 rfl rfl _
        have qb : pw_g gh7 138 (12 * k7_4 + b).toNat = pw_g h 138 (12 * k7_4 + b).toNat := pw_Eg (c := 138) I E7 rfl rfl _
        have qe : pw_g gh7 138 (12 * k7_4 + e).toNat = pw_g h 138 (12 * k7_4 + e).toNat := pw_Eg (c := 138) I E7 rfl rfl _
        have q4 : pw_g gh7 132 (k7_4).toNat = pw_g h 132 (k7_4).toNat := pw_Eg (c := 132) I E7 rfl rfl _
        have q15 : pw_g gh7 125 15 = pw_g h 125 15 := pw_Ef E7 (Or.inr (Or.inl rfl)) rfl
        have hkb : pv_hmk gh7 b (k7_4) = pv_hmk h b (k7_4) := by unfold pv_hmk; rw [q15, pw_Eg (c := 139) I E7 rfl rfl, pw_Eg (c := 140) I E7 rfl rfl]
        have hke : pv_hmk gh7 e (k7_4) = pv_hmk h e (k7_4) := by unfold pv_hmk; rw [q15, pw_Eg (c := 139) I E7 rfl rfl, pw_Eg (c := 140) I E7 rfl rfl]
        have hw4 := pw_gA (c := 132) (j := k7_4) I7 rfl (by decide) (by omega) (by omega)
        refine pw_ld E (pc' := 16) (st' := [pw_i k7_4]) rfl (fun _ => rfl) ?_
        refine pw_ld E (pc' := 17) (st' := [pw_i wo, pw_i k7_4]) rfl (fun _ => rfl) ?_
        refine pw_if2 E (pc' := 59) rfl (by decide) (by omega) (by omega) (by omega) (by omega) ?_ ?_
        · intro hc10
          change k7_4 = wo at hc10
          have hsd : (pv_lo (pv_sdm h b e) wo) (k7_4).toNat = -1 := by omega
          clear oo od
          obtain ⟨e0, e1, e2, e3⟩ := pv_stpm (sd := pv_lo (pv_sdm h b e) wo) (ch := pv_chm h b e) (k := k7_4) (by omega) hsd
          refine pw_inc E (pc' := 62) (ls' := [some (.ref 141), some (pw_i b), some (pw_i e), some (pw_i wo), some (pw_i (k7_4 + 1))]) rfl rfl rfl rfl ?_
          refine pw_goto E (pc' := 7) rfl (by decide) ?_
          exact ih7 _ (by omega) (k7_4 + 1) gh7 I7 E7 (by omega) (by omega) (by omega) (by omega) (by omega) (by omega) (by omega) (by omega) (by omega) (by omega) (by omega) (by omega) (by omega) rfl
        · intro hc11
          change ¬ (k7_4 = wo) at hc11
          refine pw_ld E (pc' := 21) (st' := [.ref 141]) rfl (fun _ => rfl) ?_
          refine pw_ld E (pc' := 23) (st' := [pw_i k7_4, .ref 141]) rfl (fun _ => rfl) ?_
          refine pw_ld E (pc' := 24) (st' := [pw_i b, pw_i k7_4, .ref 141]) rfl (fun _ => rfl) ?_
          refine pw_ld E (pc' := 25) (st' := [pw_i e, pw_i b, pw_i k7_4, .ref 141]) rfl (fun _ => rfl) ?_
          obtain ⟨f12l, f12h, -⟩ := pw_obj (c := 125) I7 rfl
          refine pw_call (m' := 214) (As := [.ref 141, pw_i k7_4, pw_i b, pw_i e]) (rest := []) (ls'' := [some (.ref 141), some (pw_i k7_4), some (pw_i b), some (pw_i e)]) (Nat.le_trans (by decide) hd) E rfl (fun _ => pw_iV rfl rfl rfl rfl (pw_cellI f12h rfl)) (rfl : pm_ent 214 = some (4, 4, 12, 1, pmc_214)) rfl rfl (cm_214_s (pw_dp hd (by decide)) I7 (k7_4) (by omega) (by omega) (b) (by omega) (by omega) (e) (by omega) (by omega)) ?_
          rintro u14 v13 ⟨rfl, x15, rfl, hx15a, hx15b, hx15r⟩
          refine ⟨_, rfl, ?_⟩
          show pw X d gh7 218 28 [some (.ref 141), some (pw_i b), some (pw_i e), some (pw_i wo), some (pw_i k7_4)] [pw_i x15] _
          change (x15 = 1 ∧ pw_g gh7 131 k7_4.toNat ≠ 0 ∧ pw_g gh7 138 (12 * k7_4 + b).toNat ≠ 0 ∧ pw_g gh7 138 (12 * k7_4 + e).toNat ≠ 0) ∨ (x15 = 0 ∧ ¬ (pw_g gh7 131 k7_4.toNat ≠ 0 ∧ pw_g gh7 138 (12 * k7_4 + b).toNat ≠ 0 ∧ pw_g gh7 138 (12 * k7_4 + e).toNat ≠ 0)) at hx15r
          rcases (by omega : x15 = 1 ∨ x15 = 0) with hb16 | hb16
          · skip
            refine pw_if E (pc' := 59) rfl (by decide) (by omega) (by omega) ?_ ?_
            · intro hc17
              change x15 = (0 : Int) at hc17
              exfalso; omega
            · intro hc18
              change ¬ (x15 = (0 : Int)) at hc18
              refine pw_ld E (pc' := 32) (st' := [.ref 141]) rfl (fun _ => rfl) ?_
              refine pw_ld E (pc' := 33) (st' := [.ref 141, .ref 141]) rfl (fun _ => rfl) ?_
              refine pw_getR (b := 148) I7 E (c := 125) (k := 11) (pc' := 36) rfl rfl rfl rfl rfl rfl rfl ?_
              refine pw_ld E (pc' := 38) (st' := [pw_i k7_4, .ref 148, .ref 141]) rfl (fun _ => rfl) ?_
              refine pw_ald2 I7 E (c := 132) (pc' := 39) rfl rfl rfl (by decide) rfl (by decide) (by omega) (by omega) rfl (fun hf19a hf19b => ?_)
              refine pw_if E (pc' := 46) rfl (by decide) (by omega) (by omega) ?_ ?_
              · intro hc20
                change pw_g gh7 132 (k7_4.toNat) ≠ (0 : Int) at hc20
                refine pw_ld E (pc' := 47) (st' := [pw_i 0, .ref 141]) rfl (fun _ => rfl) ?_
                refine pw_ld E (pc' := 48) (st' := [.ref 141, pw_i 0, .ref 141]) rfl (fun _ => rfl) ?_
                refine pw_ld E (pc' := 50) (st' := [pw_i k7_4, .ref 141, pw_i 0, .ref 141]) rfl (fun _ => rfl) ?_
                refine pw_ld E (pc' := 51) (st' := [pw_i b, pw_i k7_4, .ref 141, pw_i 0, .ref 141]) rfl (fun _ => rfl) ?_
                refine pw_ld E (pc' := 52) (st' := [pw_i e, pw_i b, pw_i k7_4, .ref 141, pw_i 0, .ref 141]) rfl (fun _ => rfl) ?_
                obtain ⟨f21l, f21h, -⟩ := pw_obj (c := 125) I7 rfl
                refine pw_call (m' := 215) (As := [.ref 141, pw_i k7_4, pw_i b, pw_i e]) (rest := [pw_i 0, .ref 141]) (ls'' := [some (.ref 141), some (pw_i k7_4), some (pw_i b), some (pw_i e)]) (Nat.le_trans (by decide) hd) E rfl (fun _ => pw_iV rfl rfl rfl rfl (pw_cellI f21h rfl)) (rfl : pm_ent 215 = some (4, 4, 12, 0, pmc_215)) rfl rfl (cm_215_s (pw_dp hd (by decide)) I7 (k7_4) (by omega) (by omega) (b) (by omega) (by omega) (e) (by omega) (by omega)) ?_
                rintro u23 v22 ⟨rfl, x24, rfl, hx24a, hx24b, hx24r⟩
                refine ⟨_, rfl, ?_⟩
                show pw X d gh7 218 55 [some (.ref 141), some (pw_i b), some (pw_i e), some (pw_i wo), some (pw_i k7_4)] [pw_i x24, pw_i 0, .ref 141] _
                change x24 = pv_hmk gh7 e k7_4 - pv_hmk gh7 b k7_4 at hx24r
                refine pw_i2l E (pc' := 56) rfl rfl (by omega) (by omega) ?_
                have hch : pv_chm h b e (k7_4).toNat = x24 := by rw [hx24r, hkb, hke]; exact pv_chmI (by omega)
                have hsd : (pv_lo (pv_sdm h b e) wo) (k7_4).toNat = 1 := by omega
                clear oo od
                obtain ⟨e0, e1, e2, e3⟩ := pv_stp1 (sd := pv_lo (pv_sdm h b e) wo) (ch := pv_chm h b e) (k := k7_4) (by omega) hsd
                rw [hch] at e3
                obtain ⟨f25l, f25h, -⟩ := pw_obj (c := 125) I7 rfl
                refine pw_call (m' := 220) (As := [.ref 141, pw_i 0, .long (Int64.ofInt x24)]) (rest := []) (ls'' := [some (.ref 141), some (pw_i 0), some (.long (Int64.ofInt x24)), none]) (Nat.le_trans (by decide) hd) E rfl (fun _ => pw_iV rfl rfl rfl rfl (pw_cellI f25h rfl)) (rfl : pm_ent 220 = some (3, 4, 12, 4, pmc_220)) rfl rfl (cm_220_s (pw_dp hd (by decide)) I7 (0) (by omega) (by omega) (x24) (by omega) (by omega) (by omega) (by omega) (by omega) (by omega) (by omega) (by omega) (by omega)) ?_
                rintro h26 v27 ⟨h26I, h26E, hqadd, rfl⟩
                refine ⟨_, rfl, ?_⟩
                have h26F := E7.tr (h26E.wk (W' := [125]) (by first | rfl | simp))
                show pw X d h26 218 59 [some (.ref 141), some (pw_i b), some (pw_i e), some (pw_i wo), some (pw_i k7_4)] [] _
                have hqa := hqadd.2 rfl
                clear hqadd
                refine pw_inc E (pc' := 62) (ls' := [some (.ref 141), some (pw_i b), some (pw_i e), some (pw_i wo), some (pw_i (k7_4 + 1))]) rfl rfl rfl rfl ?_
                refine pw_goto E (pc' := 7) rfl (by decide) ?_
                exact ih7 _ (by omega) (k7_4 + 1) h26 h26I h26F (by omega) (by omega) (by omega) (by omega) (by omega) (by omega) (by omega) (by omega) (by omega) (by omega) (by omega) (by omega) (by omega) rfl
              · intro hc28
                change ¬ (pw_g gh7 132 (k7_4.toNat) ≠ (0 : Int)) at hc28
                refine pw_ld E (pc' := 43) (st' := [pw_i 1, .ref 141]) rfl (fun _ => rfl) ?_
                refine pw_goto E (pc' := 47) rfl (by decide) ?_
                refine pw_ld E (pc' := 48) (st' := [.ref 141, pw_i 1, .ref 141]) rfl (fun _ => rfl) ?_
                refine pw_ld E (pc' := 50) (st' := [pw_i k7_4, .ref 141, pw_i 1, .ref 141]) rfl (fun _ => rfl) ?_
                refine pw_ld E (pc' := 51) (st' := [pw_i b, pw_i k7_4, .ref 141, pw_i 1, .ref 141]) rfl (fun _ => rfl) ?_
                refine pw_ld E (pc' := 52) (st' := [pw_i e, pw_i b, pw_i k7_4, .ref 141, pw_i 1, .ref 141]) rfl (fun _ => rfl) ?_
                obtain ⟨f29l, f29h, -⟩ := pw_obj (c := 125) I7 rfl
                refine pw_call (m' := 215) (As := [.ref 141, pw_i k7_4, pw_i b, pw_i e]) (rest := [pw_i 1, .ref 141]) (ls'' := [some (.ref 141), some (pw_i k7_4), some (pw_i b), some (pw_i e)]) (Nat.le_trans (by decide) hd) E rfl (fun _ => pw_iV rfl rfl rfl rfl (pw_cellI f29h rfl)) (rfl : pm_ent 215 = some (4, 4, 12, 0, pmc_215)) rfl rfl (cm_215_s (pw_dp hd (by decide)) I7 (k7_4) (by omega) (by omega) (b) (by omega) (by omega) (e) (by omega) (by omega)) ?_
                rintro u31 v30 ⟨rfl, x32, rfl, hx32a, hx32b, hx32r⟩
                refine ⟨_, rfl, ?_⟩
                show pw X d gh7 218 55 [some (.ref 141), some (pw_i b), some (pw_i e), some (pw_i wo), some (pw_i k7_4)] [pw_i x32, pw_i 1, .ref 141] _
                change x32 = pv_hmk gh7 e k7_4 - pv_hmk gh7 b k7_4 at hx32r
                refine pw_i2l E (pc' := 56) rfl rfl (by omega) (by omega) ?_
                have hch : pv_chm h b e (k7_4).toNat = x32 := by rw [hx32r, hkb, hke]; exact pv_chmI (by omega)
                have hsd : (pv_lo (pv_sdm h b e) wo) (k7_4).toNat = 0 := by omega
                clear oo od
                obtain ⟨e0, e1, e2, e3⟩ := pv_stp0 (sd := pv_lo (pv_sdm h b e) wo) (ch := pv_chm h b e) (k := k7_4) (by omega) hsd
                rw [hch] at e2
                obtain ⟨f33l, f33h, -⟩ := pw_obj (c := 125) I7 rfl
                refine pw_call (m' := 220) (As := [.ref 141, pw_i 1, .long (Int64.ofInt x32)]) (rest := []) (ls'' := [some (.ref 141), some (pw_i 1), some (.long (Int64.ofInt x32)), none]) (Nat.le_trans (by decide) hd) E rfl (fun _ => pw_iV rfl rfl rfl rfl (pw_cellI f33h rfl)) (rfl : pm_ent 220 = some (3, 4, 12, 4, pmc_220)) rfl rfl (cm_220_s (pw_dp hd (by decide)) I7 (1) (by omega) (by omega) (x32) (by omega) (by omega) (by omega) (by omega) (by omega) (by omega) (by omega) (by omega) (by omega)) ?_
                rintro h34 v35 ⟨h34I, h34E, hqadd, rfl⟩
                refine ⟨_, rfl, ?_⟩
                have h34F := E7.tr (h34E.wk (W' := [125]) (by first | rfl | simp))
                show pw X d h34 218 59 [some (.ref 141), some (pw_i b), some (pw_i e), some (pw_i wo), some (pw_i k7_4)] [] _
                have hqa := hqadd.1 rfl
                clear hqadd
                refine pw_inc E (pc' := 62) (ls' := [some (.ref 141), some (pw_i b), some (pw_i e), some (pw_i wo), some (pw_i (k7_4 + 1))]) rfl rfl rfl rfl ?_
                refine pw_goto E (pc' := 7) rfl (by decide) ?_
                exact ih7 _ (by omega) (k7_4 + 1) h34 h34I h34F (by omega) (by omega) (by omega) (by omega) (by omega) (by omega) (by omega) (by omega) (by omega) (by omega) (by omega) (by omega) (by omega) rfl
          · skip
            refine pw_if E (pc' := 59) rfl (by decide) (by omega) (by omega) ?_ ?_
            · intro hc37
              change x15 = (0 : Int) at hc37
              have hsd : (pv_lo (pv_sdm h b e) wo) (k7_4).toNat = -1 := by omega
              clear oo od
              obtain ⟨e0, e1, e2, e3⟩ := pv_stpm (sd := pv_lo (pv_sdm h b e) wo) (ch := pv_chm h b e) (k := k7_4) (by omega) hsd
              refine pw_inc E (pc' := 62) (ls' := [some (.ref 141), some (pw_i b), some (pw_i e), some (pw_i wo), some (pw_i (k7_4 + 1))]) rfl rfl rfl rfl ?_
              refine pw_goto E (pc' := 7) rfl (by decide) ?_
              exact ih7 _ (by omega) (k7_4 + 1) gh7 I7 E7 (by omega) (by omega) (by omega) (by omega) (by omega) (by omega) (by omega) (by omega) (by omega) (by omega) (by omega) (by omega) (by omega) rfl
            · intro hc38
              change ¬ (x15 = (0 : Int)) at hc38
              exfalso; omega
  exact L7 _ (0) h2 h2I h2F (by omega) (by omega) (by show _ = (0 : Int); omega) (by show _ = (0 : Int); omega) (by show _ = (0 : Int); omega) (by show _ = (0 : Int); omega) (by omega) (by omega) (by omega) (by omega) (by omega) (by omega) (by omega) rfl
end
section
/-! river, exactly (printed by wip/tool/mriver.py) -/
/-- what pick says of a fraction laid in lowest terms -/
theorem pv_pick {U D wt x g0 g1 : Int} (e0 : g0 = Int.tdiv U (pw_gd U D)) (e1 : g1 = Int.tdiv D (pw_gd U D)) (r : (wt = 0 → x = g0) ∧ (wt ≠ 0 → x = g1)) : x = pv_LW U D wt := by
  by_cases q : wt = 0
  · rw [pv_LW0 q, r.1 q, e0]
  · rw [pv_LW1 q, r.2 q, e1]
theorem pv_low {U D wt x : Int} (r : (wt = 0 → x = Int.tdiv U (pw_gd U D)) ∧ (wt ≠ 0 → x = Int.tdiv D (pw_gd U D))) : x = pv_LW U D wt := pv_pick rfl rfl r
end
section
/-! bounds: what they are (printed by wip/tool/mbnd.py) -/
theorem pv_hmkE {W : List Nat} {h h' : pm_H} {k mo : Int} (I : pw_I h) (E : pw_E W h h') (hn : (W.contains 1015 || (W.contains 139 || W.contains 140)) = false) : pv_hmk h' mo k = pv_hmk h mo k := by
  obtain ⟨h1, h2⟩ := Bool.or_eq_false_iff.mp hn
  obtain ⟨h2, h3⟩ := Bool.or_eq_false_iff.mp h2
  unfold pv_hmk
  rw [pw_Ef E (Or.inr (Or.inl rfl)) h1, pw_Eg (c := 139) I E rfl h2, pw_Eg (c := 140) I E rfl h3]
end
section
/-! choosing: sorting, and what it is (printed by wip/tool/mchoo.py) -/
/-- the place at which v goes among the first n of s -/
def pc_ip (s : Nat → Int) (v : Int) : Nat → Nat
  | 0 => 0
  | n + 1 => if v < s n then pc_ip s v n else n + 1
/-- v put among the first n of s -/
def pc_is (s : Nat → Int) (v : Int) (n j : Nat) : Int := if j < pc_ip s v n then s j else if j = pc_ip s v n then v else s (j - 1)
/-- the first n of v, sorted -/
def pc_so (v : Nat → Int) : Nat → Nat → Int
  | 0 => fun _ => 0
  | n + 1 => pc_is (pc_so v n) (v n) n
theorem pc_isI {s : Nat → Int} {v : Int} {n j : Nat} : (j < pc_ip s v n → pc_is s v n j = s j) ∧ (j = pc_ip s v n → pc_is s v n j = v) ∧ (pc_ip s v n < j → pc_is s v n j = s (j - 1)) := by
  unfold pc_is
  refine ⟨fun q => if_pos q, fun q => ?_, fun q => ?_⟩
  · rw [if_neg (by omega), if_pos q]
  · rw [if_neg (by omega), if_neg (by omega)]
/-- what stands while one is put in: its place may still be p -/
def pc_IN (s g : Nat → Int) (n p v : Int) : Prop := (∀ j : Nat, (j : Int) < p → g j = s j) ∧ (∀ j : Nat, p < (j : Int) → (j : Int) ≤ n → g j = s (j - 1)) ∧ (∀ j : Nat, p ≤ (j : Int) → (j : Int) < n → v < s j)
theorem pc_IN.z {s g : Nat → Int} {n v : Int} (H : ∀ j : Nat, (j : Int) < n → g j = s j) : pc_IN s g n n v := ⟨H, fun j h1 h2 => by omega, fun j h1 h2 => by omega⟩
theorem pc_IN.st {s : Nat → Int} {g g' : pm_H} {c : Nat} {lo hi n p v : Int} (H : pc_IN s (pw_g g c) n p v) (hs : pw_T[c]? = some (.inl (0, 24, lo, hi))) (h0 : 0 < p) (h1 : p ≤ 23) (hn : p ≤ n) (hv : v < pw_g g c (p - 1).toNat) (I : pw_I g) (w : pw_w g c p.toNat (pw_i (pw_g g c (p - 1).toNat)) = g') : pc_IN s (pw_g g' c) n (p + (-1)) v := by
  have r := pw_gA (j := p - 1) I hs (by decide) (by omega) (by omega)
  have e1 : pw_g g' c p.toNat = pw_g g c (p - 1).toNat := by rw [← w]; exact pw_g_eqA I hs (by omega) (by omega) (by omega)
  have n1 : ∀ j : Nat, j ≠ p.toNat → pw_g g' c j = pw_g g c j := fun j hj => by rw [← w]; exact pw_g_ne (fun q => hj q.2.symm)
  have e2 := H.1 (p - 1).toNat (by omega)
  refine ⟨fun j hj => ?_, fun j h2 h3 => ?_, fun j h2 h3 => ?_⟩
  · rw [n1 j (by omega)]; exact H.1 j (by omega)
  · rcases (by omega : j = p.toNat ∨ p < (j : Int)) with q | q
    · rw [q, e1, e2, show p.toNat - 1 = (p - 1).toNat by omega]
    · rw [n1 j (by omega)]; exact H.2.1 j q h3
  · rcases (by omega : j = (p - 1).toNat ∨ p ≤ (j : Int)) with q | q
    · rw [q, ← e2]; exact hv
    · exact H.2.2 j q h3
theorem pc_soS {v : Nat → Int} {n : Nat} : pc_so v (n + 1) = pc_is (pc_so v n) (v n) n := rfl
/-- the row behind i steps of sorting -/
def pc_SI (r g : Nat → Int) (i : Int) : Prop := (∀ j : Nat, (j : Int) < i → g j = pc_so r i.toNat j) ∧ ∀ j : Nat, i ≤ (j : Int) → g j = r j
/-- behind i nothing has changed -/
def pc_TL (r g : Nat → Int) (i : Int) : Prop := ∀ j : Nat, i < (j : Int) → g j = r j
theorem pc_SI.z {r : Nat → Int} : pc_SI r r 1 := by
  refine ⟨fun j hj => ?_, fun j _ => rfl⟩
  rw [show j = 0 by omega]
  exact ((pc_isI (s := pc_so r 0) (v := r 0) (n := 0) (j := 0)).2.1 rfl).symm
theorem pc_TL.up {r : Nat → Int} {g g' : pm_H} {c : Nat} {n p : Int} {x : Value} (H : pc_TL r (pw_g g c) n) (h0 : 0 ≤ p) (hn : p ≤ n) (w : pw_w g c p.toNat x = g') : pc_TL r (pw_g g' c) n := fun j hj => by
  rw [← w, pw_g_ne (fun q => by have := q.2; omega)]
  exact H j hj
theorem pc_SI.st {r : Nat → Int} {g' : Nat → Int} {i v : Int} (h0 : 0 ≤ i) (hv : v = r i.toNat) (H : ∀ j : Nat, (j : Int) < i + 1 → g' j = pc_is (pc_so r i.toNat) v i.toNat j) (t : pc_TL r g' i) : pc_SI r g' (i + 1) := by
  refine ⟨fun j hj => ?_, fun j hj => t j (by omega)⟩
  rw [H j hj, show (i + 1).toNat = i.toNat + 1 by omega, pc_soS, hv]
/-- the changes of a side, in their order -/
def pc_G (sd ch : Nat → Int) (s : Int) : Nat → Nat → Int
  | 0 => fun _ => 0
  | k + 1 => fun j => if sd k = s ∧ (j : Int) = pv_N sd s k then ch k else pc_G sd ch s k j
theorem pc_GS {sd ch : Nat → Int} {s : Int} {k j : Nat} : pc_G sd ch s (k + 1) j = if sd k = s ∧ (j : Int) = pv_N sd s k then ch k else pc_G sd ch s k j := rfl
/-- the row holds what was gathered up to k -/
def pc_GA (sd ch : Nat → Int) (s : Int) (g : Nat → Int) (k : Int) : Prop := ∀ j : Nat, (j : Int) < pv_N sd s k.toNat → g j = pc_G sd ch s k.toNat j
theorem pc_GA.z {sd ch : Nat → Int} {s : Int} {g : Nat → Int} : pc_GA sd ch s g 0 := fun j hj => by
  have e : pv_N sd s (Int.toNat 0) = 0 := rfl
  omega
theorem pc_GA.no {sd ch : Nat → Int} {s k : Int} {g : Nat → Int} (H : pc_GA sd ch s g k) (h0 : 0 ≤ k) (q : ¬ (sd k.toNat = s)) : pc_GA sd ch s g (k + 1) := fun j hj => by
  rw [(pv_Ns h0).2 q] at hj
  rw [show (k + 1).toNat = k.toNat + 1 by omega, pc_GS, if_neg (fun z => q z.1)]
  exact H j hj
theorem pc_GA.yes {sd ch : Nat → Int} {s k n x : Int} {g g' : pm_H} (H : pc_GA sd ch s (pw_g g 19) k) (h0 : 0 ≤ k) (h1 : n ≤ 23) (hn : n = pv_N sd s k.toNat) (q : sd k.toNat = s) (hx : x = ch k.toNat) (x1 : -2147483648 ≤ x) (x2 : x ≤ 2147483647) (I : pw_I g) (w : pw_w g 19 n.toNat (pw_i x) = g') : pc_GA sd ch s (pw_g g' 19) (k + 1) := fun j hj => by
  have nb := pv_NB (sd := sd) (s := s) k.toNat
  rw [(pv_Ns h0).1 q] at hj
  rw [show (k + 1).toNat = k.toNat + 1 by omega, pc_GS]
  rcases (by omega : j = n.toNat ∨ (j : Int) < n) with r | r
  · rw [if_pos ⟨q, by omega⟩, r, ← w, ← hx]
    exact pw_g_eqA I rfl (by omega) x1 x2
  · rw [if_neg (fun z => by have := z.2; omega), ← w, pw_g_ne (fun z => by have := z.2; omega)]
    exact H j (by omega)
/-- the row is sorted -/
def pc_SO (r g : Nat → Int) (n : Int) : Prop := ∀ j : Nat, (j : Int) < n → g j = pc_so r n.toNat j
theorem pc_SI.so {r g : Nat → Int} {i n : Int} (H : pc_SI r g i) (hn : n = 0 ∨ i = n) : pc_SO r g n := fun j hj => by
  rcases hn with q | q
  · omega
  · rw [← q] at hj ⊢; exact H.1 j hj
end
section
/-! odds: bits, ways, rows (printed by wip/tool/modd.py) -/
/-- bit k of s, how many bits, the sum of what they mark -/
def pb_b (s k : Nat) : Nat := s / 2 ^ k % 2
def pb_n (s : Nat) : Nat → Nat
  | 0 => 0
  | k + 1 => pb_n s k + pb_b s k
def pb_S (r : Nat → Int) (s : Nat) : Nat → Int
  | 0 => 0
  | k + 1 => pb_S r s k + (if pb_b s k = 1 then r k else 0)
theorem pb_nI (n : Nat) : nI n = Int32.ofInt (n : Int) := rfl
theorem pb_tI {n : Nat} (h : n < 2147483648) : (nI n).toInt = (n : Int) := pw_toInt (a := (n : Int)) (by omega) (by omega)
theorem pb_31 : ∀ q : Fin 31, ((Int32.ofInt (q.val : Int) &&& 31).toBitVec.smod 32).toNat = q.val := by decide +kernel
theorem pb_bit {s k : Int} (h0 : 0 ≤ s) (h1 : s ≤ 2147483647) (k0 : 0 ≤ k) (k1 : k ≤ 30) : pw_an (pw_sr s k) 1 = (pb_b s.toNat k.toNat : Int) := by
  have hk := pb_31 ⟨k.toNat, by omega⟩
  dsimp only at hk
  rw [show ((k.toNat : Nat) : Int) = k by omega] at hk
  have hm : s.toNat / 2 ^ k.toNat ≤ s.toNat := Nat.div_le_self _ _
  have e1 : pw_sr s k = ((s.toNat / 2 ^ k.toNat : Nat) : Int) := by
    have e := pk_shrN (n := s.toNat) (by omega) (Int32.ofInt k &&& 31) k.toNat hk
    rw [pb_nI s.toNat, show ((s.toNat : Nat) : Int) = s by omega] at e
    unfold pw_sr
    rw [e, pb_tI (by omega)]
  have e2 := pk_andN (n := s.toNat / 2 ^ k.toNat) (by omega) (m := 1) 1 rfl
  have hr : s.toNat / 2 ^ k.toNat % 2 ^ 1 < 2 ^ 1 := Nat.mod_lt _ (by decide)
  have h21 : 2 ^ 1 = 2 := rfl
  have e3 : (nI (s.toNat / 2 ^ k.toNat) &&& 1).toInt = ((s.toNat / 2 ^ k.toNat % 2 ^ 1 : Nat) : Int) := by rw [e2, pb_tI (by omega)]
  rw [e1]
  exact e3
theorem pb_b2 (s k : Nat) : pb_b s k < 2 := Nat.mod_lt _ (by decide)
theorem pb_bhi {s n k : Nat} (h : s < 2 ^ n) (hk : n ≤ k) : pb_b s k = 0 := by
  unfold pb_b
  rw [Nat.div_eq_of_lt (Nat.lt_of_lt_of_le h (Nat.pow_le_pow_right (by decide) hk))]
theorem pb_nhi {s n : Nat} (h : s < 2 ^ n) : ∀ d : Nat, pb_n s (n + d) = pb_n s n := by
  intro d
  induction d with
  | zero => rfl
  | succ d ih =>
    show pb_n s (n + d) + pb_b s (n + d) = _
    have a := pb_bhi h (show n ≤ n + d by omega)
    omega
theorem pb_Shi {r : Nat → Int} {s n : Nat} (h : s < 2 ^ n) : ∀ d : Nat, pb_S r s (n + d) = pb_S r s n := by
  intro d
  induction d with
  | zero => rfl
  | succ d ih =>
    show pb_S r s (n + d) + (if pb_b s (n + d) = 1 then r (n + d) else 0) = _
    have a := pb_bhi h (show n ≤ n + d by omega)
    rw [if_neg (by omega), ih]
    omega
theorem pb_SC {r r' : Nat → Int} {s : Nat} : ∀ n : Nat, (∀ k : Nat, k < n → pb_b s k = 1 → r k = r' k) → pb_S r s n = pb_S r' s n := by
  intro n
  induction n with
  | zero => intro _; rfl
  | succ n ih =>
    intro H
    have e : pb_S r s (n + 1) = pb_S r s n + (if pb_b s n = 1 then r n else 0) := rfl
    have e' : pb_S r' s (n + 1) = pb_S r' s n + (if pb_b s n = 1 then r' n else 0) := rfl
    rw [e, e', ih (fun k hk => H k (by omega))]
    by_cases q : pb_b s n = 1
    · rw [if_pos q, if_pos q, H n (Nat.lt_succ_self n) q]
    · rw [if_neg q, if_neg q]
theorem pb_nB (s : Nat) : ∀ n : Nat, pb_n s n ≤ n := by
  intro n
  induction n with
  | zero => exact Nat.le_refl _
  | succ n ih =>
    have e : pb_n s (n + 1) = pb_n s n + pb_b s n := rfl
    have b := pb_b2 s n
    omega
theorem pb_np : ∀ q : Fin 15, ∀ n : Fin 15, q.val ≤ n.val → pb_n (2 ^ q.val - 1) n.val = q.val := by decide +kernel
theorem pb_SS {r : Nat → Int} {s : Nat} {k : Int} (hk : 0 ≤ k) : (pb_b s k.toNat = 1 → pb_S r s (k + 1).toNat = pb_S r s k.toNat + r k.toNat) ∧ (pb_b s k.toNat ≠ 1 → pb_S r s (k + 1).toNat = pb_S r s k.toNat) := by
  rw [show (k + 1).toNat = k.toNat + 1 by omega]
  have e : pb_S r s (k.toNat + 1) = pb_S r s k.toNat + (if pb_b s k.toNat = 1 then r k.toNat else 0) := rfl
  rw [e]
  exact ⟨fun q => by rw [if_pos q], fun q => by rw [if_neg q]; omega⟩
theorem pb_nS {s : Nat} {k : Int} (hk : 0 ≤ k) : pb_n s (k + 1).toNat = pb_n s k.toNat + pb_b s k.toNat := by
  rw [show (k + 1).toNat = k.toNat + 1 by omega]
  rfl
/-- and with a mask -/
def pb_an (a m : Int) : Int := ((a.toNat &&& m.toNat : Nat) : Int)
theorem pb_anB {a m : Int} (h0 : 0 ≤ a) (h1 : 0 ≤ m) : 0 ≤ pb_an a m ∧ pb_an a m ≤ a ∧ pb_an a m ≤ m := by
  unfold pb_an
  have l1 : a.toNat &&& m.toNat ≤ a.toNat := Nat.and_le_left
  have l2 : a.toNat &&& m.toNat ≤ m.toNat := Nat.and_le_right
  omega
theorem pb_anE {a m : Int} (h0 : 0 ≤ a) (h1 : a ≤ 2147483647) (h2 : 0 ≤ m) (h3 : m ≤ 2147483647) : (Int32.ofInt a &&& Int32.ofInt m).toInt = pb_an a m := by
  have l1 : a.toNat &&& m.toNat ≤ a.toNat := Nat.and_le_left
  have e : nI (a.toNat &&& m.toNat) = nI a.toNat &&& nI m.toNat := Int32.toBitVec_inj.mp BitVec.ofNat_and
  rw [pb_nI a.toNat, pb_nI m.toNat, show ((a.toNat : Nat) : Int) = a by omega, show ((m.toNat : Nat) : Int) = m by omega] at e
  rw [← e, pb_tI (by omega)]
  rfl
theorem pb_16 : ∀ q : Fin 17, (((Int32.ofInt (q.val : Int)).toUInt32 &&& Int32.toUInt32 31).toBitVec % 32).toNat = q.val := by decide +kernel
theorem pb_usE {a k : Int} (h0 : 0 ≤ a) (h1 : a ≤ 2147483647) (k0 : 0 ≤ k) (k1 : k ≤ 16) : ((Int32.ofInt a).toUInt32 >>> ((Int32.ofInt k).toUInt32 &&& Int32.toUInt32 31)).toInt32.toInt = a / ((2 ^ k.toNat : Nat) : Int) := by
  have hk := pb_16 ⟨k.toNat, by omega⟩
  dsimp only at hk
  rw [show ((k.toNat : Nat) : Int) = k by omega] at hk
  have hm : a.toNat / 2 ^ k.toNat ≤ a.toNat := Nat.div_le_self _ _
  have e := pk_ushrN (n := a.toNat) (by omega) (Int32.ofInt k) k.toNat hk
  rw [pb_nI a.toNat, show ((a.toNat : Nat) : Int) = a by omega] at e
  rw [e, pb_tI (by omega)]
  show ((a.toNat : Nat) : Int) / ((2 ^ k.toNat : Nat) : Int) = _
  rw [show ((a.toNat : Nat) : Int) = a by omega]
/-- the JDK's count of bits, by its steps -/
def pb_bc1 (x : Int) : Int := x - pb_an (x / 2) 1431655765
def pb_bc2 (x : Int) : Int := pb_an x 858993459 + pb_an (x / 4) 858993459
def pb_bc3 (x : Int) : Int := pb_an (x + x / 16) 252645135
def pb_bc4 (x : Int) : Int := x + x / 256
def pb_bc5 (x : Int) : Int := pb_an (x + x / 65536) 63
def pb_bc (x : Int) : Int := pb_bc5 (pb_bc4 (pb_bc3 (pb_bc2 (pb_bc1 x))))
def pb_n14 (s : Nat) : Nat := pb_b s 0 + pb_b s 1 + pb_b s 2 + pb_b s 3 + pb_b s 4 + pb_b s 5 + pb_b s 6 + pb_b s 7 + pb_b s 8 + pb_b s 9 + pb_b s 10 + pb_b s 11 + pb_b s 12 + pb_b s 13
theorem pb_n14E (s : Nat) : pb_n s 14 = pb_n14 s := by
  have h0 : pb_n s 1 = pb_n s 0 + pb_b s 0 := rfl
  have h1 : pb_n s 2 = pb_n s 1 + pb_b s 1 := rfl
  have h2 : pb_n s 3 = pb_n s 2 + pb_b s 2 := rfl
  have h3 : pb_n s 4 = pb_n s 3 + pb_b s 3 := rfl
  have h4 : pb_n s 5 = pb_n s 4 + pb_b s 4 := rfl
  have h5 : pb_n s 6 = pb_n s 5 + pb_b s 5 := rfl
  have h6 : pb_n s 7 = pb_n s 6 + pb_b s 6 := rfl
  have h7 : pb_n s 8 = pb_n s 7 + pb_b s 7 := rfl
  have h8 : pb_n s 9 = pb_n s 8 + pb_b s 8 := rfl
  have h9 : pb_n s 10 = pb_n s 9 + pb_b s 9 := rfl
  have h10 : pb_n s 11 = pb_n s 10 + pb_b s 10 := rfl
  have h11 : pb_n s 12 = pb_n s 11 + pb_b s 11 := rfl
  have h12 : pb_n s 13 = pb_n s 12 + pb_b s 12 := rfl
  have h13 : pb_n s 14 = pb_n s 13 + pb_b s 13 := rfl
  have z : pb_n s 0 = 0 := rfl
  unfold pb_n14
  omega
def pb_all (n : Nat) : Bool := Nat.rec true (fun k ih => cond (decide (pb_bc (Int.ofNat k) = Int.ofNat (pb_n14 k))) ih false) n
theorem pb_all_S (n : Nat) : pb_all (n + 1) = cond (decide (pb_bc (Int.ofNat n) = Int.ofNat (pb_n14 n))) (pb_all n) false := rfl
theorem pb_all_of : ∀ n : Nat, pb_all n = true → ∀ k : Nat, k < n → pb_bc (k : Int) = (pb_n14 k : Int) := by
  intro n
  induction n with
  | zero => intro _ k hk; exact absurd hk (Nat.not_lt_zero k)
  | succ n ih =>
    intro H k hk
    rw [pb_all_S] at H
    by_cases q : pb_bc (Int.ofNat n) = Int.ofNat (pb_n14 n)
    · rw [decide_eq_true q] at H
      rcases (by omega : k < n ∨ k = n) with e | e
      · exact ih H k e
      · rw [e]; exact q
    · rw [decide_eq_false q] at H
      exact absurd H Bool.false_ne_true
theorem pb_bcE {x : Int} (h0 : 0 ≤ x) (h1 : x ≤ 16383) : pb_bc x = (pb_n x.toNat 14 : Int) := by
  have e := pb_all_of 16384 (by decide +kernel) x.toNat (by omega)
  rw [show ((x.toNat : Nat) : Int) = x by omega, ← pb_n14E] at e
  exact e
/-- how many ways, and how many of them as far -/
def po_W (q : Int) (m : Nat) : Nat → Int
  | 0 => 0
  | s + 1 => po_W q m s + (if (pb_n s m : Int) = q then 1 else 0)
def po_F (r : Nat → Int) (al tf ow q : Int) (m : Nat) : Nat → Int
  | 0 => 0
  | s + 1 => po_F r al tf ow q m s + (if (pb_n s m : Int) = q ∧ (ow ≤ pb_S r s m * al - tf ∨ ow ≤ -(pb_S r s m * al - tf)) then 1 else 0)
theorem po_B {r : Nat → Int} {al tf ow q : Int} {m : Nat} : ∀ n : Nat, 0 ≤ po_F r al tf ow q m n ∧ po_F r al tf ow q m n ≤ po_W q m n ∧ po_W q m n ≤ n := by
  intro n
  induction n with
  | zero => exact ⟨Int.le_refl _, Int.le_refl _, Int.le_refl _⟩
  | succ n ih =>
    have e : po_W q m (n + 1) = po_W q m n + (if (pb_n n m : Int) = q then 1 else 0) := rfl
    have e' : po_F r al tf ow q m (n + 1) = po_F r al tf ow q m n + (if (pb_n n m : Int) = q ∧ (ow ≤ pb_S r n m * al - tf ∨ ow ≤ -(pb_S r n m * al - tf)) then 1 else 0) := rfl
    rw [e, e']
    by_cases z : (pb_n n m : Int) = q
    · rw [if_pos z]
      split <;> omega
    · rw [if_neg z, if_neg (fun w => z w.1)]
      omega
theorem po_Ws {q s : Int} {m : Nat} (hs : 0 ≤ s) : ((pb_n s.toNat m : Int) = q → po_W q m (s + 1).toNat = po_W q m s.toNat + 1) ∧ (¬ ((pb_n s.toNat m : Int) = q) → po_W q m (s + 1).toNat = po_W q m s.toNat) := by
  rw [show (s + 1).toNat = s.toNat + 1 by omega]
  have e : po_W q m (s.toNat + 1) = po_W q m s.toNat + (if (pb_n s.toNat m : Int) = q then 1 else 0) := rfl
  rw [e]
  exact ⟨fun z => by rw [if_pos z], fun z => by rw [if_neg z]; omega⟩
theorem po_Wp {q : Int} {m : Nat} (q0 : 0 ≤ q) (hq : q ≤ m) (hm : m ≤ 14) : ∀ n : Nat, 2 ^ q.toNat ≤ n → 1 ≤ po_W q m n := by
  intro n
  induction n with
  | zero =>
    intro hn
    have := Nat.one_le_two_pow (n := q.toNat)
    omega
  | succ n ih =>
    intro hn
    have e : po_W q m (n + 1) = po_W q m n + (if (pb_n n m : Int) = q then 1 else 0) := rfl
    have b := po_B (r := fun _ => 0) (al := 0) (tf := 0) (ow := 0) (q := q) (m := m) n
    rcases (by omega : 2 ^ q.toNat ≤ n ∨ n = 2 ^ q.toNat - 1) with z | z
    · have := ih z
      rw [e]
      split <;> omega
    · have w := pb_np ⟨q.toNat, by omega⟩ ⟨m, by omega⟩ (by show q.toNat ≤ m; omega)
      dsimp only at w
      rw [← z] at w
      rw [e, if_pos (by omega)]
      omega
theorem po_WC {q : Int} {m m' : Nat} : ∀ n : Nat, (∀ s : Nat, s < n → pb_n s m = pb_n s m') → po_W q m n = po_W q m' n := by
  intro n
  induction n with
  | zero => intro _; rfl
  | succ n ih =>
    intro H
    show po_W q m n + (if (pb_n n m : Int) = q then 1 else 0) = po_W q m' n + (if (pb_n n m' : Int) = q then 1 else 0)
    rw [ih (fun s hs => H s (by omega)), H n (Nat.lt_succ_self n)]
/-- those on a side, in their order -/
def pc_M (sd : Nat → Int) : Nat → Int
  | 0 => 0
  | k + 1 => pc_M sd k + (if sd k ≠ -1 then 1 else 0)
def pc_B (sd ch : Nat → Int) : Nat → Nat → Int
  | 0 => fun _ => 0
  | k + 1 => fun j => if sd k ≠ -1 ∧ (j : Int) = pc_M sd k then ch k else pc_B sd ch k j
theorem pc_BS {sd ch : Nat → Int} {k j : Nat} : pc_B sd ch (k + 1) j = if sd k ≠ -1 ∧ (j : Int) = pc_M sd k then ch k else pc_B sd ch k j := rfl
theorem pc_MB {sd : Nat → Int} : ∀ n : Nat, 0 ≤ pc_M sd n ∧ pc_M sd n ≤ n := by
  intro n
  induction n with
  | zero => exact ⟨Int.le_refl _, Int.le_refl _⟩
  | succ n ih =>
    have e : pc_M sd (n + 1) = pc_M sd n + (if sd n ≠ -1 then 1 else 0) := rfl
    rw [e]
    split <;> omega
theorem pc_Ms {sd : Nat → Int} {k : Int} (hk : 0 ≤ k) : (sd k.toNat ≠ -1 → pc_M sd (k + 1).toNat = pc_M sd k.toNat + 1) ∧ (sd k.toNat = -1 → pc_M sd (k + 1).toNat = pc_M sd k.toNat) := by
  rw [show (k + 1).toNat = k.toNat + 1 by omega]
  have e : pc_M sd (k.toNat + 1) = pc_M sd k.toNat + (if sd k.toNat ≠ -1 then 1 else 0) := rfl
  rw [e]
  exact ⟨fun q => by rw [if_pos q], fun q => by rw [if_neg (fun z => z q)]; omega⟩
/-- the row is filled from the first k -/
def pc_BA (sd ch g : Nat → Int) (k : Int) : Prop := ∀ j : Nat, (j : Int) < pc_M sd k.toNat → g j = pc_B sd ch k.toNat j
theorem pc_BA.z {sd ch g : Nat → Int} : pc_BA sd ch g 0 := fun j hj => by
  have e : pc_M sd (Int.toNat 0) = 0 := rfl
  omega
theorem pc_BA.no {sd ch g : Nat → Int} {k : Int} (H : pc_BA sd ch g k) (h0 : 0 ≤ k) (q : sd k.toNat = -1) : pc_BA sd ch g (k + 1) := fun j hj => by
  rw [(pc_Ms h0).2 q] at hj
  rw [show (k + 1).toNat = k.toNat + 1 by omega, pc_BS, if_neg (fun z => z.1 q)]
  exact H j hj
theorem pc_BA.yes {sd ch : Nat → Int} {c : Nat} {lo hi k n x : Int} {g g' : pm_H} (H : pc_BA sd ch (pw_g g c) k) (hs : pw_T[c]? = some (.inl (0, 24, lo, hi))) (h0 : 0 ≤ k) (h1 : n ≤ 23) (hn : n = pc_M sd k.toNat) (q : sd k.toNat ≠ -1) (hx : x = ch k.toNat) (x1 : -2147483648 ≤ x) (x2 : x ≤ 2147483647) (I : pw_I g) (w : pw_w g c n.toNat (pw_i x) = g') : pc_BA sd ch (pw_g g' c) (k + 1) := fun j hj => by
  have nb := pc_MB (sd := sd) k.toNat
  rw [(pc_Ms h0).1 q] at hj
  rw [show (k + 1).toNat = k.toNat + 1 by omega, pc_BS]
  rcases (by omega : j = n.toNat ∨ (j : Int) < n) with r | r
  · rw [if_pos ⟨q, by omega⟩, r, ← w, ← hx]
    exact pw_g_eqA I hs (by omega) x1 x2
  · rw [if_neg (fun z => by have := z.2; omega), ← w, pw_g_ne (fun z => by have := z.2; omega)]
    exact H j (by omega)
theorem po_p2E {s a : Int} (h0 : 0 ≤ s) (h : s = pw_p2 a) : s.toNat = 2 ^ a.toNat := by
  unfold pw_p2 at h
  omega
theorem po_sdmE {W : List Nat} {h h' : pm_H} {b e : Int} (I : pw_I h) (E : pw_E W h h') (hn : ((W.contains 131 || (W.contains 132 || W.contains 138)) || (W.contains 1015 || (W.contains 139 || W.contains 140))) = false) : pv_sdm h' b e = pv_sdm h b e ∧ pv_chm h' b e = pv_chm h b e := by
  obtain ⟨h1, h3⟩ := Bool.or_eq_false_iff.mp hn
  obtain ⟨h1, h2⟩ := Bool.or_eq_false_iff.mp h1
  obtain ⟨h2, h4⟩ := Bool.or_eq_false_iff.mp h2
  refine ⟨funext (fun k => ?_), funext (fun k => ?_)⟩
  · unfold pv_sdm
    rw [pw_Eg (c := 131) I E rfl h1, pw_Eg (c := 132) I E rfl h2, pw_Eg (c := 138) I E rfl h4, pw_Eg (c := 138) I E rfl h4]
  · unfold pv_chm
    rw [pv_hmkE I E h3, pv_hmkE I E h3]
theorem pb_us1 {a : Int} (h0 : 0 ≤ a) (h1 : a ≤ 2147483647) : ((Int32.ofInt a).toUInt32 >>> ((Int32.ofInt 1).toUInt32 &&& Int32.toUInt32 31)).toInt32.toInt = a / 2 := pb_usE h0 h1 (by decide) (by decide)
theorem pb_us2 {a : Int} (h0 : 0 ≤ a) (h1 : a ≤ 2147483647) : ((Int32.ofInt a).toUInt32 >>> ((Int32.ofInt 2).toUInt32 &&& Int32.toUInt32 31)).toInt32.toInt = a / 4 := pb_usE h0 h1 (by decide) (by decide)
theorem pb_us4 {a : Int} (h0 : 0 ≤ a) (h1 : a ≤ 2147483647) : ((Int32.ofInt a).toUInt32 >>> ((Int32.ofInt 4).toUInt32 &&& Int32.toUInt32 31)).toInt32.toInt = a / 16 := pb_usE h0 h1 (by decide) (by decide)
theorem pb_us8 {a : Int} (h0 : 0 ≤ a) (h1 : a ≤ 2147483647) : ((Int32.ofInt a).toUInt32 >>> ((Int32.ofInt 8).toUInt32 &&& Int32.toUInt32 31)).toInt32.toInt = a / 256 := pb_usE h0 h1 (by decide) (by decide)
theorem pb_us16 {a : Int} (h0 : 0 ≤ a) (h1 : a ≤ 2147483647) : ((Int32.ofInt a).toUInt32 >>> ((Int32.ofInt 16).toUInt32 &&& Int32.toUInt32 31)).toInt32.toInt = a / 65536 := pb_usE h0 h1 (by decide) (by decide)
end
section
/-! lots: signs, sums of draws (printed by wip/tool/mlot.py) -/
/-- the sign of a number -/
def pl_sg (x : Int) : Int := if x < 0 then -1 else if 0 < x then 1 else 0
theorem pl_sgI {x : Int} : (x < 0 → pl_sg x = -1) ∧ (0 < x → pl_sg x = 1) ∧ (x = 0 → pl_sg x = 0) := by
  unfold pl_sg
  exact ⟨fun q => if_pos q, fun q => by rw [if_neg (by omega), if_pos q], fun q => by rw [if_neg (by omega), if_neg (by omega)]⟩
/-- what a row says of a sum: how many of its first places have the sign -/
def pl_i (g : Nat → Int) (u sgn : Int) : Nat → Int
  | 0 => 0
  | j + 1 => pl_i g u sgn j + (if pl_sg (u - g j) = sgn then 1 else 0)
def pl_o (f g : Nat → Int) (sgn : Int) (nb : Nat) : Nat → Int
  | 0 => 0
  | i + 1 => pl_o f g sgn nb i + pl_i g (f i) sgn nb
/-- the same told by the draws -/
def pl_I (T : Nat → Int) (k : Int) (m : Nat) (u sgn : Int) : Nat → Int
  | 0 => 0
  | t + 1 => pl_I T k m u sgn t + (if (pb_n t m : Int) = k ∧ pl_sg (u - T t) = sgn then 1 else 0)
def pl_O (S T : Nat → Int) (k : Int) (m : Nat) (sgn : Int) (nb : Nat) : Nat → Int
  | 0 => 0
  | s + 1 => pl_O S T k m sgn nb s + (if (pb_n s m : Int) = k then pl_I T k m (S s) sgn nb else 0)
theorem pl_iS {g : Nat → Int} {u sgn j : Int} (hj : 0 ≤ j) : (pl_sg (u - g j.toNat) = sgn → pl_i g u sgn (j + 1).toNat = pl_i g u sgn j.toNat + 1) ∧ (¬ (pl_sg (u - g j.toNat) = sgn) → pl_i g u sgn (j + 1).toNat = pl_i g u sgn j.toNat) := by
  rw [show (j + 1).toNat = j.toNat + 1 by omega]
  have e : pl_i g u sgn (j.toNat + 1) = pl_i g u sgn j.toNat + (if pl_sg (u - g j.toNat) = sgn then 1 else 0) := rfl
  rw [e]
  exact ⟨fun q => by rw [if_pos q], fun q => by rw [if_neg q]; omega⟩
theorem pl_oS {f g : Nat → Int} {sgn i : Int} {nb : Nat} (hi : 0 ≤ i) : pl_o f g sgn nb (i + 1).toNat = pl_o f g sgn nb i.toNat + pl_i g (f i.toNat) sgn nb := by
  rw [show (i + 1).toNat = i.toNat + 1 by omega]
  rfl
theorem pl_IS {T : Nat → Int} {k u sgn t : Int} {m : Nat} (ht : 0 ≤ t) : ((pb_n t.toNat m : Int) = k → pl_sg (u - T t.toNat) = sgn → pl_I T k m u sgn (t + 1).toNat = pl_I T k m u sgn t.toNat + 1) ∧ (¬ (pl_sg (u - T t.toNat) = sgn) → pl_I T k m u sgn (t + 1).toNat = pl_I T k m u sgn t.toNat) ∧ (¬ ((pb_n t.toNat m : Int) = k) → pl_I T k m u sgn (t + 1).toNat = pl_I T k m u sgn t.toNat) := by
  rw [show (t + 1).toNat = t.toNat + 1 by omega]
  have e : pl_I T k m u sgn (t.toNat + 1) = pl_I T k m u sgn t.toNat + (if (pb_n t.toNat m : Int) = k ∧ pl_sg (u - T t.toNat) = sgn then 1 else 0) := rfl
  rw [e]
  exact ⟨fun q w => by rw [if_pos ⟨q, w⟩], fun w => by rw [if_neg (fun z => w z.2)]; omega, fun w => by rw [if_neg (fun z => w z.1)]; omega⟩
theorem pl_OS {S T : Nat → Int} {k sgn s : Int} {m nb : Nat} (hs : 0 ≤ s) : ((pb_n s.toNat m : Int) = k → pl_O S T k m sgn nb (s + 1).toNat = pl_O S T k m sgn nb s.toNat + pl_I T k m (S s.toNat) sgn nb) ∧ (¬ ((pb_n s.toNat m : Int) = k) → pl_O S T k m sgn nb (s + 1).toNat = pl_O S T k m sgn nb s.toNat) := by
  rw [show (s + 1).toNat = s.toNat + 1 by omega]
  have e : pl_O S T k m sgn nb (s.toNat + 1) = pl_O S T k m sgn nb s.toNat + (if (pb_n s.toNat m : Int) = k then pl_I T k m (S s.toNat) sgn nb else 0) := rfl
  rw [e]
  exact ⟨fun q => by rw [if_pos q], fun q => by rw [if_neg q]; omega⟩
theorem pl_IB {T : Nat → Int} {k u sgn : Int} {m : Nat} : ∀ n : Nat, 0 ≤ pl_I T k m u sgn n ∧ pl_I T k m u sgn n ≤ po_W k m n := by
  intro n
  induction n with
  | zero => exact ⟨Int.le_refl _, Int.le_refl _⟩
  | succ n ih =>
    have e : pl_I T k m u sgn (n + 1) = pl_I T k m u sgn n + (if (pb_n n m : Int) = k ∧ pl_sg (u - T n) = sgn then 1 else 0) := rfl
    have e' : po_W k m (n + 1) = po_W k m n + (if (pb_n n m : Int) = k then 1 else 0) := rfl
    rw [e, e']
    by_cases z : (pb_n n m : Int) = k
    · rw [if_pos z]
      split <;> omega
    · rw [if_neg z, if_neg (fun w => z w.1)]
      omega
theorem pl_OB {S T : Nat → Int} {k sgn : Int} {m nb : Nat} (hn : nb ≤ 512) : ∀ n : Nat, 0 ≤ pl_O S T k m sgn nb n ∧ pl_O S T k m sgn nb n ≤ 512 * (n : Int) := by
  intro n
  induction n with
  | zero => exact ⟨Int.le_refl _, Int.le_refl _⟩
  | succ n ih =>
    have e : pl_O S T k m sgn nb (n + 1) = pl_O S T k m sgn nb n + (if (pb_n n m : Int) = k then pl_I T k m (S n) sgn nb else 0) := rfl
    have b := pl_IB (T := T) (k := k) (u := S n) (sgn := sgn) (m := m) nb
    have w := (po_B (r := fun _ => 0) (al := 0) (tf := 0) (ow := 0) (q := k) (m := m) nb).2.2
    rw [e]
    split <;> omega
theorem pl_OY {S T : Nat → Int} {k sgn : Int} {m nb : Nat} : ∀ n : Nat, pl_O S T k m sgn nb n ≤ po_W k m n * po_W k m nb := by
  intro n
  induction n with
  | zero => show (0 : Int) ≤ 0 * _; rw [Int.zero_mul]; exact Int.le_refl _
  | succ n ih =>
    have e : pl_O S T k m sgn nb (n + 1) = pl_O S T k m sgn nb n + (if (pb_n n m : Int) = k then pl_I T k m (S n) sgn nb else 0) := rfl
    have e' : po_W k m (n + 1) = po_W k m n + (if (pb_n n m : Int) = k then 1 else 0) := rfl
    have b := pl_IB (T := T) (k := k) (u := S n) (sgn := sgn) (m := m) nb
    rw [e, e', Int.add_mul]
    by_cases z : (pb_n n m : Int) = k
    · rw [if_pos z, if_pos z, Int.one_mul]; omega
    · rw [if_neg z, if_neg z, Int.zero_mul]; omega
theorem po_Wm {q : Int} {m a : Nat} : ∀ d : Nat, po_W q m a ≤ po_W q m (a + d) := by
  intro d
  induction d with
  | zero => exact Int.le_refl _
  | succ d ih =>
    have e : po_W q m (a + d + 1) = po_W q m (a + d) + (if (pb_n (a + d) m : Int) = q then 1 else 0) := rfl
    show po_W q m a ≤ po_W q m (a + d + 1)
    rw [e]
    split <;> omega
theorem po_WL {q : Int} {m a b : Nat} (h : a < b) (ha : (pb_n a m : Int) = q) : po_W q m a < po_W q m b := by
  have e : po_W q m (a + 1) = po_W q m a + (if (pb_n a m : Int) = q then 1 else 0) := rfl
  rw [if_pos ha] at e
  have := po_Wm (q := q) (m := m) (a := a + 1) (b - (a + 1))
  rw [show a + 1 + (b - (a + 1)) = b by omega] at this
  omega
/-- the row holds the sums of the draws that have k members, one behind another -/
def pl_A (T : Nat → Int) (k : Int) (m : Nat) (g : Nat → Int) (n : Int) : Prop := ∀ s : Nat, (s : Int) < n → (pb_n s m : Int) = k → g (po_W k m s).toNat = T s
theorem pl_A.z {T g : Nat → Int} {k : Int} {m : Nat} : pl_A T k m g 0 := fun s hs => by omega
theorem pl_A.no {T g : Nat → Int} {k n : Int} {m : Nat} (H : pl_A T k m g n) (h0 : 0 ≤ n) (q : ¬ ((pb_n n.toNat m : Int) = k)) : pl_A T k m g (n + 1) := fun s hs hk => by
  rcases (by omega : (s : Int) < n ∨ s = n.toNat) with e | e
  · exact H s e hk
  · rw [e] at hk; exact absurd hk q
theorem pl_A.yes {T : Nat → Int} {c : Nat} {lo hi k n x v : Int} {m : Nat} {g g' : pm_H} (H : pl_A T k m (pw_g g c) n) (hs : pw_T[c]? = some (.inl (0, 512, lo, hi))) (h0 : 0 ≤ n) (h1 : x ≤ 511) (hx : x = po_W k m n.toNat) (hk : (pb_n n.toNat m : Int) = k) (hv : v = T n.toNat) (v1 : -2147483648 ≤ v) (v2 : v ≤ 2147483647) (I : pw_I g) (w : pw_w g c x.toNat (pw_i v) = g') : pl_A T k m (pw_g g' c) (n + 1) := fun s hsn hsk => by
  have wb := po_B (r := fun _ => 0) (al := 0) (tf := 0) (ow := 0) (q := k) (m := m) n.toNat
  rcases (by omega : (s : Int) < n ∨ s = n.toNat) with e | e
  · have l := po_WL (q := k) (m := m) (a := s) (b := n.toNat) (by omega) hsk
    have b2 := po_B (r := fun _ => 0) (al := 0) (tf := 0) (ow := 0) (q := k) (m := m) s
    rw [← w, pw_g_ne (fun z => by have := z.2; omega)]
    exact H s e hsk
  · rw [e, ← hx, ← w, ← hv]
    exact pw_g_eqA I hs (by omega) v1 v2
theorem pl_reI {T g : Nat → Int} {k u sgn : Int} {m : Nat} : ∀ n : Nat, pl_A T k m g n → pl_i g u sgn (po_W k m n).toNat = pl_I T k m u sgn n := by
  intro n
  induction n with
  | zero => intro _; rfl
  | succ n ih =>
    intro H
    have i := ih (fun s hs hk => H s (by omega) hk)
    have wb := po_B (r := fun _ => 0) (al := 0) (tf := 0) (ow := 0) (q := k) (m := m) n
    have e : po_W k m (n + 1) = po_W k m n + (if (pb_n n m : Int) = k then 1 else 0) := rfl
    have eI : pl_I T k m u sgn (n + 1) = pl_I T k m u sgn n + (if (pb_n n m : Int) = k ∧ pl_sg (u - T n) = sgn then 1 else 0) := rfl
    by_cases q : (pb_n n m : Int) = k
    · rw [if_pos q] at e
      have ei : pl_i g u sgn ((po_W k m n).toNat + 1) = pl_i g u sgn (po_W k m n).toNat + (if pl_sg (u - g (po_W k m n).toNat) = sgn then 1 else 0) := rfl
      rw [e, show (po_W k m n + 1).toNat = (po_W k m n).toNat + 1 by omega, ei, eI, i, H n (by omega) q]
      by_cases z : pl_sg (u - T n) = sgn
      · rw [if_pos z, if_pos ⟨q, z⟩]
      · rw [if_neg z, if_neg (fun w => z w.2)]
    · rw [if_neg q, Int.add_zero] at e
      rw [e, eI, i, if_neg (fun w => q w.1), Int.add_zero]
theorem pl_reO {S T f g : Nat → Int} {k sgn : Int} {m N : Nat} (G : pl_A T k m g N) : ∀ n : Nat, pl_A S k m f n → pl_o f g sgn (po_W k m N).toNat (po_W k m n).toNat = pl_O S T k m sgn N n := by
  intro n
  induction n with
  | zero => intro _; rfl
  | succ n ih =>
    intro H
    have i := ih (fun s hs hk => H s (by omega) hk)
    have wb := po_B (r := fun _ => 0) (al := 0) (tf := 0) (ow := 0) (q := k) (m := m) n
    have e : po_W k m (n + 1) = po_W k m n + (if (pb_n n m : Int) = k then 1 else 0) := rfl
    have eO : pl_O S T k m sgn N (n + 1) = pl_O S T k m sgn N n + (if (pb_n n m : Int) = k then pl_I T k m (S n) sgn N else 0) := rfl
    by_cases q : (pb_n n m : Int) = k
    · rw [if_pos q] at e
      have eo : pl_o f g sgn (po_W k m N).toNat ((po_W k m n).toNat + 1) = pl_o f g sgn (po_W k m N).toNat (po_W k m n).toNat + pl_i g (f (po_W k m n).toNat) sgn (po_W k m N).toNat := rfl
      rw [e, show (po_W k m n + 1).toNat = (po_W k m n).toNat + 1 by omega, eo, eO, i, H n (by omega) q, pl_reI N G, if_pos q]
    · rw [if_neg q, Int.add_zero] at e
      rw [e, eO, i, if_neg q, Int.add_zero]
theorem pl_IC {T T' : Nat → Int} {k u sgn : Int} {m m' : Nat} : ∀ n : Nat, (∀ s : Nat, s < n → pb_n s m = pb_n s m' ∧ T s = T' s) → pl_I T k m u sgn n = pl_I T' k m' u sgn n := by
  intro n
  induction n with
  | zero => intro _; rfl
  | succ n ih =>
    intro H
    show pl_I T k m u sgn n + (if (pb_n n m : Int) = k ∧ pl_sg (u - T n) = sgn then 1 else 0) = pl_I T' k m' u sgn n + (if (pb_n n m' : Int) = k ∧ pl_sg (u - T' n) = sgn then 1 else 0)
    rw [ih (fun s hs => H s (by omega)), (H n (Nat.lt_succ_self n)).1, (H n (Nat.lt_succ_self n)).2]
theorem pl_OC {S S' T T' : Nat → Int} {k sgn : Int} {m m' nb : Nat} (HT : ∀ s : Nat, s < nb → pb_n s m = pb_n s m' ∧ T s = T' s) : ∀ n : Nat, (∀ s : Nat, s < n → pb_n s m = pb_n s m' ∧ S s = S' s) → pl_O S T k m sgn nb n = pl_O S' T' k m' sgn nb n := by
  intro n
  induction n with
  | zero => intro _; rfl
  | succ n ih =>
    intro H
    show pl_O S T k m sgn nb n + (if (pb_n n m : Int) = k then pl_I T k m (S n) sgn nb else 0) = pl_O S' T' k m' sgn nb n + (if (pb_n n m' : Int) = k then pl_I T' k m' (S' n) sgn nb else 0)
    rw [ih (fun s hs => H s (by omega)), (H n (Nat.lt_succ_self n)).1, (H n (Nat.lt_succ_self n)).2, pl_IC nb HT]
/-- the changes of a side, as a row of its own; the sums of its draws -/
def pl_T (sd ch : Nat → Int) (sx : Int) (s : Nat) : Int := pb_S (pc_G sd ch sx 24) s 14
def pl_X (sd ch : Nat → Int) (k : Int) : Int := pl_O (pl_T sd ch 0) (pl_T sd ch 1) k 14 (pl_sg (pv_U sd ch)) (2 ^ (pv_N sd 1 24).toNat) (2 ^ (pv_N sd 0 24).toNat)
def pl_Y (sd : Nat → Int) (k : Int) : Int := po_W k 14 (2 ^ (pv_N sd 0 24).toNat) * po_W k 14 (2 ^ (pv_N sd 1 24).toNat)
theorem pc_GC {sd sd' ch ch' : Nat → Int} {sx : Int} : ∀ n : Nat, (∀ k : Nat, k < n → sd k = sd' k ∧ (sd k = sx → ch k = ch' k)) → pc_G sd ch sx n = pc_G sd' ch' sx n := by
  intro n
  induction n with
  | zero => intro _; rfl
  | succ n ih =>
    intro H
    have h1 := (pv_cg (sd := sd) (sd' := sd') (ch := ch) (ch' := ch') (s := sx) n (fun k hk => H k (by omega))).1
    obtain ⟨a, b⟩ := H n (Nat.lt_succ_self n)
    refine funext (fun j => ?_)
    rw [pc_GS, pc_GS, ih (fun k hk => H k (by omega)), h1, ← a]
    by_cases q : sd n = sx
    · rw [b q]
    · rw [if_neg (fun z => q z.1), if_neg (fun z => q z.1)]
theorem pc_GB {sd ch : Nat → Int} {sx : Int} : ∀ n : Nat, (∀ k : Nat, k < n → sd k = sx → -2000 ≤ ch k ∧ ch k ≤ 2000) → ∀ j : Nat, (j : Int) < pv_N sd sx n → -2000 ≤ pc_G sd ch sx n j ∧ pc_G sd ch sx n j ≤ 2000 := by
  intro n
  induction n with
  | zero =>
    intro _ j hj
    have e : pv_N sd sx 0 = 0 := rfl
    omega
  | succ n ih =>
    intro H j hj
    have e : pv_N sd sx (n + 1) = pv_N sd sx n + (if sd n = sx then 1 else 0) := rfl
    rw [pc_GS]
    by_cases q : sd n = sx ∧ (j : Int) = pv_N sd sx n
    · rw [if_pos q]; exact H n (Nat.lt_succ_self n) q.1
    · rw [if_neg q]
      refine ih (fun k hk => H k (by omega)) j ?_
      rw [e] at hj
      by_cases w : sd n = sx
      · rw [if_pos w] at hj
        have : ¬ ((j : Int) = pv_N sd sx n) := fun z => q ⟨w, z⟩
        omega
      · rw [if_neg w] at hj
        omega
theorem pl_cg {sd sd' ch ch' : Nat → Int} {k : Int} (H : ∀ k : Nat, k < 24 → sd k = sd' k ∧ (sd k ≠ -1 → ch k = ch' k)) : pl_X sd ch k = pl_X sd' ch' k ∧ pl_Y sd k = pl_Y sd' k := by
  obtain ⟨u1, u2, u3, u4, u5⟩ := pv_Ucg H
  have g0 := pc_GC (sx := 0) 24 (fun k hk => ⟨(H k hk).1, fun e => (H k hk).2 (by omega)⟩)
  have g1 := pc_GC (sx := 1) 24 (fun k hk => ⟨(H k hk).1, fun e => (H k hk).2 (by omega)⟩)
  have t0 : pl_T sd ch 0 = pl_T sd' ch' 0 := by unfold pl_T; rw [g0]
  have t1 : pl_T sd ch 1 = pl_T sd' ch' 1 := by unfold pl_T; rw [g1]
  unfold pl_X pl_Y
  rw [t0, t1, u1, u4, u5]
  exact ⟨rfl, rfl⟩
theorem pl_pow {a : Int} (h : a ≤ 9) : 1 ≤ 2 ^ a.toNat ∧ 2 ^ a.toNat ≤ 512 := by
  have p : 2 ^ a.toNat ≤ 2 ^ 9 := Nat.pow_le_pow_right (by decide) (by omega)
  have e : 2 ^ 9 = 512 := rfl
  have q := Nat.one_le_two_pow (n := a.toNat)
  omega
theorem pl_WB {k a : Int} {m : Nat} (k1 : 1 ≤ k) (ka : k ≤ a) (ha : a ≤ 9) (hm : 9 ≤ m) (hm2 : m ≤ 14) : 1 ≤ po_W k m (2 ^ a.toNat) ∧ po_W k m (2 ^ a.toNat) ≤ 512 := by
  have w := po_Wp (q := k) (m := m) (by omega) (by omega) hm2 (2 ^ a.toNat) (Nat.pow_le_pow_right (by decide) (by omega))
  have b := po_B (r := fun _ => 0) (al := 0) (tf := 0) (ow := 0) (q := k) (m := m) (2 ^ a.toNat)
  have p := pl_pow ha
  omega
theorem pl_XB {sd ch : Nat → Int} {k : Int} (k1 : 1 ≤ k) (k2 : k ≤ pv_N sd 0 24) (k3 : k ≤ pv_N sd 1 24) (n0 : pv_N sd 0 24 ≤ 9) (n1 : pv_N sd 1 24 ≤ 9) : 0 ≤ pl_X sd ch k ∧ pl_X sd ch k ≤ 262144 ∧ 1 ≤ pl_Y sd k ∧ pl_Y sd k ≤ 262144 ∧ pl_X sd ch k ≤ pl_Y sd k := by
  have w0 := pl_WB (m := 14) k1 k2 n0 (by decide) (by decide)
  have w1 := pl_WB (m := 14) k1 k3 n1 (by decide) (by decide)
  have p0 := pl_pow n0
  have p1 := pl_pow n1
  have b := pl_OB (S := pl_T sd ch 0) (T := pl_T sd ch 1) (k := k) (sgn := pl_sg (pv_U sd ch)) (m := 14) (nb := 2 ^ (pv_N sd 1 24).toNat) (by omega) (2 ^ (pv_N sd 0 24).toNat)
  have y := pl_OY (S := pl_T sd ch 0) (T := pl_T sd ch 1) (k := k) (sgn := pl_sg (pv_U sd ch)) (m := 14) (nb := 2 ^ (pv_N sd 1 24).toNat) (2 ^ (pv_N sd 0 24).toNat)
  have mm := pw_mulB (a := po_W k 14 (2 ^ (pv_N sd 0 24).toNat)) (b := po_W k 14 (2 ^ (pv_N sd 1 24).toNat)) (A := 512) (B := 512) (by omega) (by omega) (by omega) (by omega)
  have m3 := mm.2.2 w0.1 w1.1
  unfold pl_X pl_Y
  omega
theorem pl_9 {r r' : Nat → Int} {s : Nat} {a : Int} (ha : a ≤ 9) (hs : s < 2 ^ a.toNat) (H : ∀ j : Nat, (j : Int) < a → r j = r' j) : pb_n s 9 = pb_n s 14 ∧ pb_S r s 9 = pb_S r' s 14 := by
  have p := pl_pow ha
  have h9 : s < 2 ^ 9 := by
    have e : 2 ^ 9 = 512 := rfl
    omega
  have n := pb_nhi h9 5
  have S := pb_Shi (r := r) h9 5
  refine ⟨n.symm, S.symm.trans (pb_SC _ (fun j _ hb => ?_))⟩
  rcases (by omega : (j : Int) < a ∨ a.toNat ≤ j) with q | q
  · exact H j q
  · have := pb_bhi hs q
    omega
theorem pl_14 {r r' : Nat → Int} {s : Nat} {a : Int} (hs : s < 2 ^ a.toNat) (H : ∀ j : Nat, (j : Int) < a → r j = r' j) : pb_S r s 14 = pb_S r' s 14 := pb_SC _ (fun j _ hb => by
  rcases (by omega : (j : Int) < a ∨ a.toNat ≤ j) with q | q
  · exact H j q
  · have := pb_bhi hs q
    omega)
theorem pl_rowB {g : Nat → Int} {s : Nat} {a : Int} (hs : s < 2 ^ a.toNat) (hb : ∀ j : Nat, (j : Int) < a → -2000 ≤ g j ∧ g j ≤ 2000) : ∀ j : Nat, pb_b s j = 1 → -2000 ≤ g j ∧ g j ≤ 2000 := by
  intro j hj
  rcases (by omega : (j : Int) < a ∨ a.toNat ≤ j) with q | q
  · exact hb j q
  · have := pb_bhi hs q
    omega
theorem pl_lt9 {s a : Int} (h0 : 0 ≤ s) (h : s < pw_p2 a) : s.toNat < 2 ^ a.toNat := by
  unfold pw_p2 at h
  omega
theorem pl_p2N {a : Int} : pw_p2 a = ((2 ^ a.toNat : Nat) : Int) := rfl
/-- lots can be drawn, k of them -/
def pl_ok (sd : Nat → Int) (k : Int) : Prop := pv_N sd 0 24 ≤ 9 ∧ pv_N sd 1 24 ≤ 9 ∧ k ≤ pv_N sd 0 24 ∧ k ≤ pv_N sd 1 24
def pl_gd (sd ch : Nat → Int) (p k : Int) : Prop := pl_ok sd k ∧ p * pl_Y sd k ≤ 100 * pl_X sd ch k
theorem pl_okcg {sd sd' ch ch' : Nat → Int} {p k : Int} (H : ∀ k : Nat, k < 24 → sd k = sd' k ∧ (sd k ≠ -1 → ch k = ch' k)) : (pl_ok sd k ↔ pl_ok sd' k) ∧ (pl_gd sd ch p k ↔ pl_gd sd' ch' p k) := by
  obtain ⟨u1, u2, u3, u4, u5⟩ := pv_Ucg H
  obtain ⟨x1, x2⟩ := pl_cg (k := k) H
  unfold pl_gd pl_ok
  rw [x1, x2, u4, u5]
  exact ⟨Iff.rfl, Iff.rfl⟩
theorem pl_GAy {sd ch : Nat → Int} {c q9 : Nat} {lo hi s k n x : Int} {g g' : pm_H} (H : pc_GA sd ch s (pw_g g c) k) (hs : pw_T[c]? = some (.inl (0, q9, lo, hi))) (h0 : 0 ≤ k) (h1 : n < q9) (hn : n = pv_N sd s k.toNat) (q : sd k.toNat = s) (hx : x = ch k.toNat) (x1 : -2147483648 ≤ x) (x2 : x ≤ 2147483647) (I : pw_I g) (w : pw_w g c n.toNat (pw_i x) = g') : pc_GA sd ch s (pw_g g' c) (k + 1) := fun j hj => by
  have nb := pv_NB (sd := sd) (s := s) k.toNat
  rw [(pv_Ns h0).1 q] at hj
  rw [show (k + 1).toNat = k.toNat + 1 by omega, pc_GS]
  rcases (by omega : j = n.toNat ∨ (j : Int) < n) with r | r
  · rw [if_pos ⟨q, by omega⟩, r, ← w, ← hx]
    exact pw_g_eqA I hs (by omega) x1 x2
  · rw [if_neg (fun z => by have := z.2; omega), ← w, pw_g_ne (fun z => by have := z.2; omega)]
    exact H j (by omega)
theorem pv_Nm {sd : Nat → Int} {s : Int} {a : Nat} : ∀ d : Nat, pv_N sd s a ≤ pv_N sd s (a + d) := by
  intro d
  induction d with
  | zero => exact Int.le_refl _
  | succ d ih =>
    have e : pv_N sd s (a + d + 1) = pv_N sd s (a + d) + (if sd (a + d) = s then 1 else 0) := rfl
    show pv_N sd s a ≤ pv_N sd s (a + d + 1)
    rw [e]
    split <;> omega
theorem pv_Nm24 {sd : Nat → Int} {s k : Int} (h0 : 0 ≤ k) (h1 : k ≤ 24) : pv_N sd s k.toNat ≤ pv_N sd s 24 := by
  have := pv_Nm (sd := sd) (s := s) (a := k.toNat) (24 - k.toNat)
  rw [show k.toNat + (24 - k.toNat) = 24 by omega] at this
  exact this
theorem pc_GA.rowB {sd ch g : Nat → Int} {s : Int} (H : pc_GA sd ch s g 24) (hb : ∀ k : Nat, k < 24 → sd k = s → -2000 ≤ ch k ∧ ch k ≤ 2000) : ∀ j : Nat, (j : Int) < pv_N sd s 24 → -2000 ≤ g j ∧ g j ≤ 2000 := fun j hj => by
  have e24 : (24 : Int).toNat = 24 := rfl
  have h := H j (by rw [e24]; exact hj)
  rw [e24] at h
  rw [h]
  exact pc_GB 24 hb j hj
theorem pc_GA.row {sd ch g : Nat → Int} {s : Int} (H : pc_GA sd ch s g 24) : ∀ j : Nat, (j : Int) < pv_N sd s 24 → g j = pc_G sd ch s 24 j := fun j hj => H j hj
/-- the model's sums of draws -/
def pl_R (g : Nat → Int) (s : Nat) : Int := pb_S g s 9
theorem pl_XM {sd ch r0 r1 : Nat → Int} {k : Int} (G0 : pc_GA sd ch 0 r0 24) (G1 : pc_GA sd ch 1 r1 24) (n0 : pv_N sd 0 24 ≤ 9) (n1 : pv_N sd 1 24 ≤ 9) : pl_O (pl_R r0) (pl_R r1) k 9 (pl_sg (pv_U sd ch)) (2 ^ (pv_N sd 1 24).toNat) (2 ^ (pv_N sd 0 24).toNat) = pl_X sd ch k ∧ po_W k 9 (2 ^ (pv_N sd 0 24).toNat) * po_W k 9 (2 ^ (pv_N sd 1 24).toNat) = pl_Y sd k := by
  have h0 : ∀ s : Nat, s < 2 ^ (pv_N sd 0 24).toNat → pb_n s 9 = pb_n s 14 ∧ pl_R r0 s = pl_T sd ch 0 s := fun s hs => pl_9 n0 hs G0.row
  have h1 : ∀ s : Nat, s < 2 ^ (pv_N sd 1 24).toNat → pb_n s 9 = pb_n s 14 ∧ pl_R r1 s = pl_T sd ch 1 s := fun s hs => pl_9 n1 hs G1.row
  refine ⟨pl_OC h1 _ h0, ?_⟩
  unfold pl_Y
  rw [po_WC _ (fun s hs => (h0 s hs).1), po_WC _ (fun s hs => (h1 s hs).1)]
theorem pl_pm {a b w : Int} (h : a = b + 1) : a * w = b * w + w := by rw [h, Int.add_mul, Int.one_mul]
end
